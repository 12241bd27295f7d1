/**
 * A dog, some fields, and words that are worth what was paid for them.
 * What each call must answer stands in ../shared/DOC.md; how to use it, in README.md.
 */
public final class WhistleBack {
    public static final int UNKNOWN = -1, OUTSIDE = -2, STATE = -3, FULL = -4, NONE = -9;

    private static final int WHISTLE = 1, NAME = 2, HOME = 3;
    private static final int MOST_LETTERS = 36, MOST_WORDS = 4, MOST_THINGS = 4;
    private static final int FARTHEST = 9, STRONGEST = 9;
    private static final int MOST_ACTS = 14, SLOTS = 2, MOST_SEEN = 6;
    private static final int MOST_CALLS = 4, MOST_DOINGS = 6, MOST_WALKS = 30;
    private static final int ALL_THINGS = (1 << MOST_THINGS) - 1;
    private static final long SEED_TIMES = 6364136223846793005L, SEED_AND = 1442695040888963407L;

    private final Text text;
    private final Fields fields;
    private final Dog dog;
    /** A second dog for what is only thought through, so that nothing changes and nothing is made. */
    private final Dog trial;
    private final Shelf acts;
    private int actsInRow;
    private final Shelf slots;
    private final boolean[] kept;
    private final Sights sights;
    private long theSeed;

    public WhistleBack() {
        text = new Text();
        fields = new Fields();
        dog = new Dog();
        trial = new Dog();
        acts = new Shelf(MOST_ACTS);
        slots = new Shelf(SLOTS);
        kept = new boolean[SLOTS];
        sights = new Sights();
    }

    // ---- the walk

    public int write(int letter) {
        if (letter < 0 || letter > 255) return OUTSIDE;
        if (text.isFull()) return FULL;
        text.append(letter);
        return text.size;
    }

    public int wipe() {
        int was = text.size;
        text.size = 0;
        return was;
    }

    public int fault() {
        return text.firstFault();
    }

    public int walk() {
        if (text.firstFault() != NONE) return STATE;
        dog.startAnew(text.figureAt(1), text.figureAt(2));
        fields.clear();
        for (int place = 3; place < text.size; place += 3) {
            tellPart(text.letterAt(place), text.figureAt(place + 1), text.figureAt(place + 2));
        }
        actsInRow = 0;
        for (int slot = 0; slot < kept.length; slot++) kept[slot] = false;
        return 10 * fields.words + fields.things;
    }

    private void tellPart(int head, int first, int second) {
        if (head == 'W') {
            dog.setStrength(fields.words, first);
            fields.addWord(second);
        } else {
            fields.addThing(first, second);
        }
    }

    public int word(int word, int what) {
        if (!fields.hasWord(word)) return UNKNOWN;
        switch (what) {
            case 0: return dog.strengthOf(word);
            case 1: return fields.kindOf(word);
            case 2: return fields.powerOf(dog, word, dog.yards);
            case 3: return asNumber(fields.brings(dog, word, dog.yards));
            case 4: return farOf(word);
            case 5: return spentOf(word);
            default: return OUTSIDE;
        }
    }

    private int farOf(int word) {
        for (int y = FARTHEST; y >= 0; y--) {
            if (fields.brings(dog, word, y)) return y;
        }
        return NONE;
    }

    private int spentOf(int word) {
        int strength = dog.strengthOf(word);
        return fields.kindOf(word) == NAME ? (strength + 1) / 2 : strength;
    }

    public int thing(int thing, int what) {
        if (!fields.hasThing(thing)) return UNKNOWN;
        switch (what) {
            case 0: return fields.spotOf(thing);
            case 1: return fields.tugOf(thing);
            default: return OUTSIDE;
        }
    }

    public int pull(int y) {
        if (isNoYard(y)) return OUTSIDE;
        return fields.pullAt(y, ALL_THINGS);
    }

    // ---- acts

    public int call(int word) {
        if (!fields.hasWord(word)) return UNKNOWN;
        if (dog.onLead) return STATE;
        remember();
        return asNumber(fields.callHim(dog, word));
    }

    public int pay() {
        if (!dog.canBePaid()) return STATE;
        remember();
        int word = dog.owed;
        dog.bePaid();
        return dog.strengthOf(word);
    }

    public int run(int n) {
        if (n < 1 || n > 9) return OUTSIDE;
        if (dog.onLead) return STATE;
        remember();
        dog.runOff(n);
        return dog.yards;
    }

    public int lead() {
        if (!dog.canBeLed()) return STATE;
        remember();
        fields.leash(dog);
        return asNumber(dog.onLead);
    }

    public int hunger() {
        remember();
        dog.hungry = !dog.hungry;
        return asNumber(dog.hungry);
    }

    public int undo() {
        if (actsInRow < 1) return STATE;
        actsInRow--;
        acts.take(actsInRow, dog);
        return actsInRow;
    }

    /** Lays by how all stands ahead of an ACT, that it can be undone. */
    private void remember() {
        if (actsInRow >= MOST_ACTS) {
            acts.dropFirst();
            actsInRow = MOST_ACTS - 1;
        }
        acts.put(actsInRow, dog);
        actsInRow++;
    }

    // ---- words

    public int comes(int word, int y) {
        if (!fields.hasWord(word)) return UNKNOWN;
        if (isNoYard(y)) return OUTSIDE;
        return asNumber(fields.brings(dog, word, y));
    }

    public int best(int y) {
        if (isNoYard(y)) return OUTSIDE;
        int best = NONE;
        int most = 0;
        for (int word = 0; word < fields.words; word++) {
            int power = fields.powerOf(dog, word, y);
            if (fields.brings(dog, word, y) && power > most) {
                best = word;
                most = power;
            }
        }
        return best;
    }

    public int fewest(boolean row) {
        if (dog.onLead) return NONE;
        int rows = 1;
        for (int n = 1; n <= MOST_CALLS; n++) {
            rows *= fields.words;
            for (int nth = 0; nth < rows; nth++) {
                int told = nthRow(nth, n);
                if (onlyLastBrings(n, told)) return row ? told : n;
            }
        }
        return NONE;
    }

    /** Counts the rows of n WORDS from the least number on, leaving out figures of no WORD. */
    private int nthRow(int nth, int n) {
        int words = fields.words;
        if (words < 1) return 0;
        int row = 0;
        int unit = 1;
        int rest = nth;
        for (int i = 0; i < n; i++) {
            row += (rest % words + 1) * unit;
            rest /= words;
            unit *= 10;
        }
        return row;
    }

    private boolean onlyLastBrings(int n, int row) {
        trial.copyFrom(dog);
        for (int place = 0; place < n; place++) {
            boolean came = fields.callHim(trial, figureOf(row, n, place) - 1);
            if (came != (place == n - 1)) return false;
        }
        return true;
    }

    public int good(int word, int y) {
        if (!fields.hasWord(word)) return UNKNOWN;
        if (isNoYard(y)) return OUTSIDE;
        int strength = dog.strengthOf(word);
        for (int cheese = 0; strength + cheese <= STRONGEST; cheese++) {
            int power = fields.powerWith(strength + cheese, word, dog.hungry, y);
            if (fields.isEnough(power, y, ALL_THINGS)) return cheese;
        }
        return NONE;
    }

    public int judge(int n, int row) {
        if (n < 1 || n > MOST_DOINGS) return OUTSIDE;
        if (row < 0 || row >= tenTo(n)) return OUTSIDE;
        trial.copyFrom(dog);
        for (int place = 0; place < n; place++) {
            if (!doesWell(trial, figureOf(row, n, place))) return place;
        }
        return NONE;
    }

    /** Does it with him, if it can be; false: it can not be, or it was a CALL in vain. */
    private boolean doesWell(Dog him, int doing) {
        switch (doing) {
            case 0:
                return true;
            case 5:
                if (!him.canBePaid()) return false;
                him.bePaid();
                return true;
            case 6:
                if (him.onLead) return false;
                him.runOff(1);
                return true;
            case 7:
                if (!him.canBeLed()) return false;
                fields.leash(him);
                return true;
            case 8:
                him.hungry = !him.hungry;
                return true;
            case 9:
                return false;
            default:
                return !him.onLead && fields.hasWord(doing - 1) && fields.callHim(him, doing - 1);
        }
    }

    // ---- seen

    public int see(int word, int y, int came) {
        if (!fields.hasWord(word)) return UNKNOWN;
        if (isNoYard(y) || came < 0 || came > 1) return OUTSIDE;
        if (sights.isFull()) return FULL;
        sights.add(word, y, came == 1);
        return sights.size;
    }

    public int unsee() {
        int was = sights.size;
        sights.size = 0;
        return was;
    }

    public int may(int word) {
        if (!fields.hasWord(word)) return UNKNOWN;
        int strengths = 0;
        for (int strength = 0; strength <= STRONGEST; strength++) {
            if (sights.agree(fields, word, strength, dog.hungry)) strengths |= 1 << strength;
        }
        return strengths;
    }

    // ---- shares, rests, chances

    public int share(int word, boolean upper) {
        if (!fields.hasWord(word)) return UNKNOWN;
        // In the mean of all orders each YARD is split evenly among the WORDS that bring him from it.
        int twelfths = 0;
        for (int y = 0; y <= FARTHEST; y++) {
            int bringing = wordsThatBring(y);
            if (bringing > 0 && fields.brings(dog, word, y)) twelfths += 12 / bringing;
        }
        return fraction(twelfths, 12, upper);
    }

    private int wordsThatBring(int y) {
        int many = 0;
        for (int word = 0; word < fields.words; word++) {
            if (fields.brings(dog, word, y)) many++;
        }
        return many;
    }

    public int rests(int v, int w, int what) {
        if (!fields.hasWord(v) || !fields.hasWord(w)) return UNKNOWN;
        if (what < 0 || what > 1) return OUTSIDE;
        int many = 0;
        int first = NONE;
        for (int one = 0; one <= 1; one++) {
            for (int other = 0; other <= 1; other++) {
                if (!isContent(v, one, other) || !isContent(w, other, one)) continue;
                if (many == 0) first = 10 * one + other;
                many++;
            }
        }
        return what == 0 ? many : first;
    }

    private boolean isContent(int word, int own, int other) {
        return gainOf(word, own, other) >= gainOf(word, 1 - own, other);
    }

    private int gainOf(int word, int own, int other) {
        if (own == 0) return 0;
        int power = fields.powerOf(dog, word, dog.yards) - 2 * other;
        return fields.isEnough(power, dog.yards, ALL_THINGS) ? 3 - other : -1;
    }

    public int there(int word, int x, boolean upper) {
        if (!fields.hasWord(word)) return UNKNOWN;
        if (x < 0 || x > 10) return OUTSIDE;
        int power = fields.powerOf(dog, word, dog.yards);
        int above = 0;
        for (int present = 0; present < 1 << fields.things; present++) {
            if (fields.isEnough(power, dog.yards, present)) above += weightOf(present, x);
        }
        return fraction(above, tenTo(fields.things), upper);
    }

    /** How likely just those THINGS are there, told in 10 to the power of how many THINGS there are. */
    private int weightOf(int present, int x) {
        int weight = 1;
        for (int thing = 0; thing < fields.things; thing++) {
            weight *= (present >> thing & 1) == 1 ? x : 10 - x;
        }
        return weight;
    }

    public long seed(long v) {
        long was = theSeed;
        theSeed = v;
        return was;
    }

    public int walks(int m) {
        if (m < 1 || m > MOST_WALKS) return OUTSIDE;
        trial.copyFrom(dog);
        int came = 0;
        for (int i = 0; i < m; i++) {
            theSeed = theSeed * SEED_TIMES + SEED_AND;
            int chance = (int) ((theSeed >>> 33) % 20);
            if (!trial.onLead && returnsFrom(trial, chance)) came++;
        }
        return came;
    }

    private boolean returnsFrom(Dog him, int chance) {
        him.runOff(chance % 5);
        int word = chance / 5;
        if (!fields.hasWord(word) || !fields.callHim(him, word)) return false;
        if (him.canBePaid()) him.bePaid();
        return true;
    }

    // ---- slots

    public int keep(int slot) {
        if (isNoSlot(slot)) return UNKNOWN;
        slots.put(slot, dog);
        kept[slot] = true;
        return dog.calls;
    }

    public int again(int slot) {
        if (isNoSlot(slot)) return UNKNOWN;
        if (!kept[slot]) return STATE;
        slots.take(slot, dog);
        actsInRow = 0;
        return dog.calls;
    }

    private boolean isNoSlot(int slot) {
        return slot < 0 || slot >= kept.length;
    }

    public int count(int what) {
        switch (what) {
            case 0: return text.size;
            case 1: return fields.words;
            case 2: return fields.things;
            case 3: return dog.cheese;
            case 4: return dog.yards;
            case 5: return dog.owed;
            case 6: return asNumber(dog.hungry);
            case 7: return asNumber(dog.onLead);
            case 8: return dog.calls;
            case 9: return actsInRow;
            case 10: return sights.size;
            default: return OUTSIDE;
        }
    }

    // ---- numbers

    private static int asNumber(boolean so) {
        return so ? 1 : 0;
    }

    private static boolean isNoYard(int y) {
        return y < 0 || y > FARTHEST;
    }

    private static int tenTo(int n) {
        int power = 1;
        for (int i = 0; i < n; i++) power *= 10;
        return power;
    }

    /** The figure at a place (0: the highest) of a row of n figures. */
    private static int figureOf(int row, int n, int place) {
        int rest = row;
        for (int i = place + 1; i < n; i++) rest /= 10;
        return rest % 10;
    }

    private static int fraction(int above, int below, boolean upper) {
        int divisor = greatestDivisor(above, below);
        if (divisor < 1) return upper ? above : below;
        return upper ? above / divisor : below / divisor;
    }

    private static int greatestDivisor(int a, int b) {
        int greater = a;
        int less = b;
        // Far fewer rounds are needed: below is 10000 at most.
        for (int i = 0; i < 64 && less != 0; i++) {
            int rest = greater % less;
            greater = less;
            less = rest;
        }
        return greater;
    }

    /** The letters that were told, and where they stop being a WALK. */
    private static final class Text {
        private final int[] letters;
        private int size;

        Text() {
            letters = new int[MOST_LETTERS];
        }

        boolean isFull() {
            return size >= letters.length;
        }

        void append(int letter) {
            if (size < 0 || size >= letters.length) return;
            letters[size] = letter;
            size++;
        }

        int letterAt(int place) {
            return place >= 0 && place < letters.length ? letters[place] : 0;
        }

        int figureAt(int place) {
            return letterAt(place) - '0';
        }

        int firstFault() {
            int words = 0;
            int things = 0;
            for (int place = 0; place < size; place++) {
                if (!fits(place, words, things)) return place;
                if (letterAt(place) == 'W') words++;
                if (letterAt(place) == 'T') things++;
            }
            return size == 0 || size % 3 != 0 ? size : NONE;
        }

        /** Whether a letter can stand where it does, if all ahead of it can: all is told by threes. */
        boolean fits(int place, int words, int things) {
            int letter = letterAt(place);
            if (place == 0) return letter == 'D';
            switch (place % 3) {
                case 0: return letter == 'W' && words < MOST_WORDS || letter == 'T' && things < MOST_THINGS;
                case 1: return letter >= '0' && letter <= '9';
                default: return endsPart(letterAt(place - 2), letter);
            }
        }

        boolean endsPart(int head, int letter) {
            if (head == 'W') return letter >= '0' && letter <= '3';
            if (head == 'T') return letter >= '1' && letter <= '9';
            return letter >= '0' && letter <= '9';
        }
    }

    /** What does not change while he is walked: KINDS and THINGS, and what they do with him. */
    private static final class Fields {
        private final int[] kinds;
        private final int[] spots;
        private final int[] tugs;
        private int words;
        private int things;

        Fields() {
            kinds = new int[MOST_WORDS];
            spots = new int[MOST_THINGS];
            tugs = new int[MOST_THINGS];
        }

        void clear() {
            words = 0;
            things = 0;
        }

        void addWord(int kind) {
            if (words < 0 || words >= kinds.length) return;
            kinds[words] = kind;
            words++;
        }

        void addThing(int spot, int tug) {
            if (things < 0 || things >= spots.length || things >= tugs.length) return;
            spots[things] = spot;
            tugs[things] = tug;
            things++;
        }

        boolean hasWord(int word) {
            return word >= 0 && word < words;
        }

        boolean hasThing(int thing) {
            return thing >= 0 && thing < things;
        }

        int kindOf(int word) {
            return word >= 0 && word < kinds.length ? kinds[word] : 0;
        }

        int spotOf(int thing) {
            return thing >= 0 && thing < spots.length ? spots[thing] : 0;
        }

        int tugOf(int thing) {
            return thing >= 0 && thing < tugs.length ? tugs[thing] : 0;
        }

        /** PULL at y of those THINGS whose bits are set. */
        int pullAt(int y, int present) {
            int most = 0;
            for (int thing = 0; thing < things; thing++) {
                if ((present >> thing & 1) == 0) continue;
                most = Math.max(most, tugOf(thing) - Math.abs(spotOf(thing) - y));
            }
            return most;
        }

        int powerWith(int strength, int word, boolean hungry, int y) {
            int lost = kindOf(word) == WHISTLE ? y / 4 : y / 2;
            return strength + (hungry ? 1 : 0) - lost;
        }

        int powerOf(Dog him, int word, int y) {
            return powerWith(him.strengthOf(word), word, him.hungry, y);
        }

        boolean isEnough(int power, int y, int present) {
            return power >= 1 && power >= pullAt(y, present);
        }

        boolean brings(Dog him, int word, int y) {
            return isEnough(powerOf(him, word, y), y, ALL_THINGS);
        }

        /** CALLED: true if he came. */
        boolean callHim(Dog him, int word) {
            boolean came = brings(him, word, him.yards);
            him.calls++;
            if (came) {
                him.yards = 0;
                him.owed = word;
            } else {
                him.addStrength(word, kindOf(word) == NAME ? -2 : -1);
                him.runOff(1);
            }
            return came;
        }

        /** LEAD: on it, or not any more. */
        void leash(Dog him) {
            if (!him.onLead && him.owed != NONE) {
                him.addStrength(him.owed, kindOf(him.owed) == HOME ? -1 : -2);
                him.owed = NONE;
            }
            him.onLead = !him.onLead;
        }
    }

    /** What changes while he is walked, the STRENGTHS of the WORDS too. */
    private static final class Dog {
        private static final int NUMBERS = MOST_WORDS + 6;

        private final int[] strengths;
        private int cheese;
        private int yards;
        private int owed;
        private int calls;
        private boolean hungry;
        private boolean onLead;

        Dog() {
            strengths = new int[MOST_WORDS];
            owed = NONE;
        }

        void startAnew(int cheeseThen, int yardsThen) {
            cheese = cheeseThen;
            yards = yardsThen;
            owed = NONE;
            calls = 0;
            hungry = false;
            onLead = false;
        }

        void copyFrom(Dog other) {
            for (int word = 0; word < strengths.length; word++) strengths[word] = other.strengthOf(word);
            cheese = other.cheese;
            yards = other.yards;
            owed = other.owed;
            calls = other.calls;
            hungry = other.hungry;
            onLead = other.onLead;
        }

        int strengthOf(int word) {
            return word >= 0 && word < strengths.length ? strengths[word] : 0;
        }

        void setStrength(int word, int strength) {
            if (word >= 0 && word < strengths.length) strengths[word] = strength;
        }

        void addStrength(int word, int more) {
            setStrength(word, Math.max(0, Math.min(STRONGEST, strengthOf(word) + more)));
        }

        void runOff(int n) {
            yards = Math.min(FARTHEST, yards + n);
            owed = NONE;
        }

        boolean canBePaid() {
            return owed != NONE && cheese > 0;
        }

        void bePaid() {
            cheese--;
            addStrength(owed, 1);
            owed = NONE;
        }

        boolean canBeLed() {
            return onLead || yards == 0;
        }
    }

    /** Places for dogs as they were once, told as numbers in one array, so that none is made later. */
    private static final class Shelf {
        private final int[] numbers;

        Shelf(int places) {
            numbers = new int[places > 0 ? places * Dog.NUMBERS : 0];
        }

        private int numberAt(int index) {
            return index >= 0 && index < numbers.length ? numbers[index] : 0;
        }

        private void setNumber(int index, int number) {
            if (index >= 0 && index < numbers.length) numbers[index] = number;
        }

        void put(int place, Dog him) {
            int start = place * Dog.NUMBERS;
            for (int word = 0; word < MOST_WORDS; word++) setNumber(start + word, him.strengthOf(word));
            int rest = start + MOST_WORDS;
            setNumber(rest, him.cheese);
            setNumber(rest + 1, him.yards);
            setNumber(rest + 2, him.owed);
            setNumber(rest + 3, him.calls);
            setNumber(rest + 4, asNumber(him.hungry));
            setNumber(rest + 5, asNumber(him.onLead));
        }

        void take(int place, Dog him) {
            int start = place * Dog.NUMBERS;
            for (int word = 0; word < MOST_WORDS; word++) him.setStrength(word, numberAt(start + word));
            int rest = start + MOST_WORDS;
            him.cheese = numberAt(rest);
            him.yards = numberAt(rest + 1);
            him.owed = numberAt(rest + 2);
            him.calls = numberAt(rest + 3);
            him.hungry = numberAt(rest + 4) == 1;
            him.onLead = numberAt(rest + 5) == 1;
        }

        void dropFirst() {
            for (int index = Dog.NUMBERS; index < numbers.length; index++) {
                setNumber(index - Dog.NUMBERS, numbers[index]);
            }
        }
    }

    /** What was SEEN of WORDS; it outlives THE WALK in which it was told. */
    private static final class Sights {
        private final int[] ofWord;
        private final int[] fromYards;
        private final boolean[] cameThen;
        private int size;

        Sights() {
            ofWord = new int[MOST_SEEN];
            fromYards = new int[MOST_SEEN];
            cameThen = new boolean[MOST_SEEN];
        }

        boolean isFull() {
            return size >= ofWord.length;
        }

        void add(int word, int y, boolean came) {
            if (!holds(size)) return;
            ofWord[size] = word;
            fromYards[size] = y;
            cameThen[size] = came;
            size++;
        }

        private boolean holds(int place) {
            return place >= 0 && place < ofWord.length && place < fromYards.length && place < cameThen.length;
        }

        /** Whether all that is SEEN of a WORD would be so by that STRENGTH, with the fields as they are now. */
        boolean agree(Fields fields, int word, int strength, boolean hungry) {
            for (int i = 0; i < size && holds(i); i++) {
                if (ofWord[i] != word) continue;
                int power = fields.powerWith(strength, word, hungry, fromYards[i]);
                if (fields.isEnough(power, fromYards[i], ALL_THINGS) != cameThen[i]) return false;
            }
            return true;
        }
    }
}
