import java.math.BigInteger;
import java.util.ArrayDeque;
import java.util.ArrayList;
import java.util.Arrays;
import java.util.Deque;
import java.util.List;
import java.util.Random;

/**
 * Long runs of calls by chance (always the same ones), against a second model that is written another way:
 * copies of lists for what is undone, orders tried one by one for SHARES, all texts of signs for FAULTS.
 */
public final class ModelTest {
    private static final int RUNS = 8000;
    /** So few that a run stays under the 512 calls that an object is promised for. */
    private static final int STEPS = 100;

    public static void main(String[] args) {
        for (int run = 0; run < RUNS && !Due.anyWrong(); run++) oneRun(run);
        allShortTexts();
        Due.end();
    }

    private static void oneRun(int run) {
        Random chance = new Random(run);
        WhistleBack x = new WhistleBack();
        Model m = new Model();
        StringBuilder told = new StringBuilder("run " + run + ": ");
        for (int i = 0; i < STEPS && !Due.anyWrong(); i++) oneCall(chance, x, m, told);
    }

    private static int some(Random chance, int from, int to) {
        int sort = chance.nextInt(40);
        if (sort == 0) return from - 1;
        if (sort == 1) return to + 1;
        if (sort == 2) return chance.nextInt();
        return from + chance.nextInt(to - from + 1);
    }

    private static int word(Random chance, Model m) {
        return m.kinds.isEmpty() ? some(chance, 0, 1) : some(chance, 0, m.kinds.size() - 1);
    }

    private static void oneCall(Random chance, WhistleBack x, Model m, StringBuilder told) {
        int which = chance.nextInt(31);
        if (which == 0 || m.letters.length() == 0) {
            newText(chance, x, m, told);
        } else if (which <= 14) {
            anAct(chance, x, m, told, which);
        } else {
            aQuestion(chance, x, m, told, which);
        }
        int what = some(chance, 0, 10);
        Due.due(told + "count(" + what + ")", x.count(what), m.count(what));
        int w = word(chance, m);
        what = some(chance, 0, 5);
        Due.due(told + "word(" + w + ", " + what + ")", x.word(w, what), m.word(w, what));
    }

    private static void newText(Random chance, WhistleBack x, Model m, StringBuilder told) {
        StringBuilder text = new StringBuilder("D").append(chance.nextInt(10)).append(chance.nextInt(10));
        int parts = chance.nextInt(9);
        for (int i = 0; i < parts; i++) {
            text.append(chance.nextBoolean() ? "W" + chance.nextInt(10) + chance.nextInt(4) : "T" + chance.nextInt(10) + (1 + chance.nextInt(9)));
        }
        if (chance.nextInt(4) == 0) text.setCharAt(chance.nextInt(text.length()), "DWT0349/:A".charAt(chance.nextInt(10)));
        if (chance.nextInt(4) == 0) text.setLength(chance.nextInt(text.length() + 1));
        if (chance.nextInt(10) == 0) text.append("W11W11W11W11W11W11");
        told.append("text ").append(text).append("; ");
        Due.due(told + "wipe()", x.wipe(), m.letters.length());
        m.letters.setLength(0);
        for (int i = 0; i < text.length(); i++) Due.due(told + "write", x.write(text.charAt(i)), m.write(text.charAt(i)));
        Due.due(told + "fault()", x.fault(), m.fault());
        Due.due(told + "walk()", x.walk(), m.walk());
    }

    private static void anAct(Random chance, WhistleBack x, Model m, StringBuilder told, int which) {
        int w = word(chance, m);
        int n = some(chance, 1, 9);
        int slot = some(chance, 0, 1);
        switch (which) {
            case 1: case 2: case 3: case 4:
                told.append("call ").append(w).append("; ");
                Due.due(told.toString(), x.call(w), m.call(w));
                break;
            case 5: case 6:
                told.append("pay; ");
                Due.due(told.toString(), x.pay(), m.pay());
                break;
            case 7: case 8:
                told.append("run ").append(n).append("; ");
                Due.due(told.toString(), x.run(n), m.run(n));
                break;
            case 9:
                told.append("lead; ");
                Due.due(told.toString(), x.lead(), m.lead());
                break;
            case 10:
                told.append("hunger; ");
                Due.due(told.toString(), x.hunger(), m.hunger());
                break;
            case 11: case 12:
                told.append("undo; ");
                Due.due(told.toString(), x.undo(), m.undo());
                break;
            case 13:
                told.append("keep ").append(slot).append("; ");
                Due.due(told.toString(), x.keep(slot), m.keep(slot));
                break;
            default:
                told.append("again ").append(slot).append("; ");
                Due.due(told.toString(), x.again(slot), m.again(slot));
        }
    }

    private static void aQuestion(Random chance, WhistleBack x, Model m, StringBuilder told, int which) {
        int w = word(chance, m);
        int v = word(chance, m);
        int y = some(chance, 0, 9);
        int what = some(chance, 0, 1);
        switch (which) {
            case 15: Due.due(told + "comes(" + w + ", " + y + ")", x.comes(w, y), m.comes(w, y)); break;
            case 16: Due.due(told + "best(" + y + ")", x.best(y), m.best(y)); break;
            case 17: case 18:
                Due.due(told + "fewest(false)", x.fewest(false), m.fewest(false));
                Due.due(told + "fewest(true)", x.fewest(true), m.fewest(true));
                break;
            case 19: Due.due(told + "good(" + w + ", " + y + ")", x.good(w, y), m.good(w, y)); break;
            case 20: case 21: case 22:
                int n = some(chance, 1, 6);
                int row = some(chance, 0, (int) Math.pow(10, Math.max(0, Math.min(6, n))) - 1);
                Due.due(told + "judge(" + n + ", " + row + ")", x.judge(n, row), m.judge(n, row));
                break;
            case 23:
                told.append("see ").append(w).append(' ').append(y).append(' ').append(what).append("; ");
                Due.due(told.toString(), x.see(w, y, what), m.see(w, y, what));
                break;
            case 24:
                if (chance.nextInt(4) != 0) break;
                told.append("unsee; ");
                Due.due(told.toString(), x.unsee(), m.unsee());
                break;
            case 25: Due.due(told + "may(" + w + ")", x.may(w), m.may(w)); break;
            case 26: Due.due(told + "share(" + w + ")", Due.fraction(x.share(w, true), x.share(w, false)), m.share(w)); break;
            case 27: Due.due(told + "rests(" + v + ", " + w + ", " + what + ")", x.rests(v, w, what), m.rests(v, w, what)); break;
            case 28:
                int tenths = some(chance, 0, 10);
                Due.due(told + "there(" + w + ", " + tenths + ")", Due.fraction(x.there(w, tenths, true), x.there(w, tenths, false)), m.there(w, tenths));
                break;
            case 29:
                int times = some(chance, 1, 30);
                told.append("walks ").append(times).append("; ");
                Due.due(told.toString(), x.walks(times), m.walks(times));
                long seed = chance.nextInt(3) == 0 ? chance.nextLong() : m.seed;
                Due.due(told + "seed", x.seed(seed), m.seed);
                m.seed = seed;
                break;
            default:
                Due.due(told + "pull(" + y + ")", x.pull(y), m.pull(y));
                Due.due(told + "thing(" + w + ", " + what + ")", x.thing(w, what), m.thing(w, what));
                Due.due(told + "word(" + w + ", " + y + ")", x.word(w, y), m.word(w, y));
        }
    }

    /** Every text of up to 6 of the signs on which a fault turns. */
    private static void allShortTexts() {
        String signs = "DWT0349";
        Model m = new Model();
        int many = 1;
        for (int length = 0; length <= 6; length++) {
            for (int nth = 0; nth < many; nth++) {
                WhistleBack x = new WhistleBack();
                m.letters.setLength(0);
                int rest = nth;
                for (int i = 0; i < length; i++) {
                    x.write(signs.charAt(rest % 7));
                    m.letters.append(signs.charAt(rest % 7));
                    rest /= 7;
                }
                if (x.fault() != m.fault()) Due.due("fault() of " + m.letters, x.fault(), m.fault());
            }
            many *= 7;
        }
    }

    /** WALKS of an object whose STRENGTHS and KINDS are asked of it, by the model. */
    static int walksOf(WhistleBack x, long seed, int times) {
        Model m = new Model();
        for (int w = 0; w < x.count(1); w++) {
            m.kinds.add(x.word(w, 1));
            m.now.strengths.add(x.word(w, 0));
        }
        for (int t = 0; t < x.count(2); t++) m.things.add(new int[] {x.thing(t, 0), x.thing(t, 1)});
        m.now.cheese = x.count(3);
        m.now.yards = x.count(4);
        m.now.owed = x.count(5);
        m.now.hungry = x.count(6) == 1;
        m.now.lead = x.count(7) == 1;
        m.seed = seed;
        return m.walks(times);
    }

    private static final class How {
        List<Integer> strengths = new ArrayList<>();
        int cheese;
        int yards;
        int owed = -9;
        int calls;
        boolean hungry;
        boolean lead;

        How copy() {
            How other = new How();
            other.strengths = new ArrayList<>(strengths);
            other.cheese = cheese;
            other.yards = yards;
            other.owed = owed;
            other.calls = calls;
            other.hungry = hungry;
            other.lead = lead;
            return other;
        }
    }

    private static final class Model {
        final StringBuilder letters = new StringBuilder();
        final List<Integer> kinds = new ArrayList<>();
        final List<int[]> things = new ArrayList<>();
        How now = new How();
        final Deque<How> past = new ArrayDeque<>();
        final How[] slots = new How[2];
        final List<int[]> seen = new ArrayList<>();
        long seed;

        int write(int letter) {
            if (letter < 0 || letter > 255) return -2;
            if (letters.length() == 36) return -4;
            letters.append((char) letter);
            return letters.length();
        }

        static boolean isWalk(String text) {
            if (!text.matches("D[0-9][0-9](W[0-9][0-3]|T[0-9][1-9])*")) return false;
            return text.replaceAll("[^W]", "").length() <= 4 && text.replaceAll("[^T]", "").length() <= 4;
        }

        static boolean canBecome(String text) {
            for (String more : new String[] {"", "1", "11", "D11"}) {
                if (isWalk(text + more)) return true;
            }
            return false;
        }

        int fault() {
            String text = letters.toString();
            if (isWalk(text)) return -9;
            for (int i = 0; i < text.length(); i++) {
                if (!canBecome(text.substring(0, i + 1))) return i;
            }
            return text.length();
        }

        int walk() {
            if (fault() != -9) return -3;
            now = new How();
            kinds.clear();
            things.clear();
            now.cheese = letters.charAt(1) - '0';
            now.yards = letters.charAt(2) - '0';
            for (int i = 3; i < letters.length(); i += 3) {
                int a = letters.charAt(i + 1) - '0';
                int b = letters.charAt(i + 2) - '0';
                if (letters.charAt(i) == 'T') {
                    things.add(new int[] {a, b});
                } else {
                    now.strengths.add(a);
                    kinds.add(b);
                }
            }
            past.clear();
            Arrays.fill(slots, null);
            return 10 * kinds.size() + things.size();
        }

        boolean unknown(int w) {
            return w < 0 || w >= kinds.size();
        }

        int pull(int y) {
            if (y < 0 || y > 9) return -2;
            return pullOf(things, y);
        }

        static int pullOf(List<int[]> things, int y) {
            return things.stream().mapToInt(t -> t[1] - Math.abs(t[0] - y)).filter(p -> p > 0).max().orElse(0);
        }

        int power(How how, int w, int y) {
            return how.strengths.get(w) + (how.hungry ? 1 : 0) - (kinds.get(w) == 1 ? y / 4 : y / 2);
        }

        boolean comes(How how, int w, int y) {
            int power = power(how, w, y);
            return power > 0 && power >= pullOf(things, y);
        }

        How with(int w, int strength) {
            How how = now.copy();
            how.strengths.set(w, strength);
            return how;
        }

        int word(int w, int what) {
            if (unknown(w)) return -1;
            switch (what) {
                case 0: return now.strengths.get(w);
                case 1: return kinds.get(w);
                case 2: return power(now, w, now.yards);
                case 3: return comes(now, w, now.yards) ? 1 : 0;
                case 4:
                    int far = -9;
                    for (int y = 0; y <= 9; y++) if (comes(now, w, y)) far = y;
                    return far;
                case 5:
                    int many = 0;
                    for (int s = now.strengths.get(w); s > 0; s -= kinds.get(w) == 2 ? 2 : 1) many++;
                    return many;
                default: return -2;
            }
        }

        int thing(int t, int what) {
            if (t < 0 || t >= things.size()) return -1;
            return what < 0 || what > 1 ? -2 : things.get(t)[what];
        }

        void remember() {
            past.addLast(now.copy());
            if (past.size() > 14) past.removeFirst();
        }

        /** Does one of the doings 1 to 4 (CALLED), 5 PAID, 60 and n (RUN), 7 LEAD, 8 HUNGRY; false if it can not be. */
        boolean does(How how, int doing) {
            if (doing >= 1 && doing <= 4) {
                if (unknown(doing - 1) || how.lead) return false;
                int w = doing - 1;
                how.calls++;
                if (comes(how, w, how.yards)) {
                    how.yards = 0;
                    how.owed = w;
                } else {
                    how.strengths.set(w, Math.max(0, how.strengths.get(w) - (kinds.get(w) == 2 ? 2 : 1)));
                    how.owed = -9;
                    how.yards = how.yards == 9 ? 9 : how.yards + 1;
                }
                return true;
            }
            if (doing == 5) {
                if (how.owed == -9 || how.cheese == 0) return false;
                how.cheese--;
                how.strengths.set(how.owed, Math.min(9, how.strengths.get(how.owed) + 1));
                how.owed = -9;
                return true;
            }
            if (doing >= 60) {
                if (how.lead) return false;
                how.yards = Math.min(9, how.yards + doing - 60);
                how.owed = -9;
                return true;
            }
            if (doing == 7) {
                if (!how.lead && how.yards != 0) return false;
                if (how.owed != -9) {
                    how.strengths.set(how.owed, Math.max(0, how.strengths.get(how.owed) - (kinds.get(how.owed) == 3 ? 1 : 2)));
                }
                how.owed = -9;
                how.lead = !how.lead;
                return true;
            }
            if (doing == 8) {
                how.hungry = !how.hungry;
                return true;
            }
            return doing == 0;
        }

        boolean act(int doing) {
            How then = now.copy();
            if (!does(then, doing)) return false;
            remember();
            now = then;
            return true;
        }

        int call(int w) {
            if (unknown(w)) return -1;
            if (!act(w + 1)) return -3;
            return now.owed == w ? 1 : 0;
        }

        int pay() {
            int owed = now.owed;
            return act(5) ? now.strengths.get(owed) : -3;
        }

        int run(int n) {
            if (n < 1 || n > 9) return -2;
            return act(60 + n) ? now.yards : -3;
        }

        int lead() {
            return act(7) ? (now.lead ? 1 : 0) : -3;
        }

        int hunger() {
            act(8);
            return now.hungry ? 1 : 0;
        }

        int undo() {
            if (past.isEmpty()) return -3;
            now = past.removeLast();
            return past.size();
        }

        int comes(int w, int y) {
            if (unknown(w)) return -1;
            if (y < 0 || y > 9) return -2;
            return comes(now, w, y) ? 1 : 0;
        }

        int best(int y) {
            if (y < 0 || y > 9) return -2;
            int best = -9;
            for (int w = kinds.size() - 1; w >= 0; w--) {
                if (comes(now, w, y) && (best == -9 || power(now, w, y) >= power(now, best, y))) best = w;
            }
            return best;
        }

        int fewest(boolean row) {
            for (int told = 1; told <= 4444; told++) {
                How how = now.copy();
                String figures = Integer.toString(told);
                boolean so = true;
                for (int i = 0; i < figures.length() && so; i++) {
                    so = figures.charAt(i) > '0' && figures.charAt(i) <= '4' && does(how, figures.charAt(i) - '0');
                    so = so && (how.owed != -9) == (i == figures.length() - 1);
                }
                if (so) return row ? told : figures.length();
            }
            return -9;
        }

        int good(int w, int y) {
            if (unknown(w)) return -1;
            if (y < 0 || y > 9) return -2;
            for (int s = now.strengths.get(w); s <= 9; s++) {
                if (comes(with(w, s), w, y)) return s - now.strengths.get(w);
            }
            return -9;
        }

        int judge(int n, int row) {
            if (n < 1 || n > 6 || row < 0 || Integer.toString(row).length() > n) return -2;
            String figures = "000000".concat(Integer.toString(row));
            figures = figures.substring(figures.length() - n);
            How how = now.copy();
            for (int i = 0; i < n; i++) {
                int doing = figures.charAt(i) - '0';
                if (!does(how, doing == 6 ? 61 : doing)) return i;
                if (doing >= 1 && doing <= 4 && how.owed == -9) return i;
            }
            return -9;
        }

        int see(int w, int y, int came) {
            if (unknown(w)) return -1;
            if (y < 0 || y > 9 || came < 0 || came > 1) return -2;
            if (seen.size() == 6) return -4;
            seen.add(new int[] {w, y, came});
            return seen.size();
        }

        int unsee() {
            int was = seen.size();
            seen.clear();
            return was;
        }

        int may(int w) {
            if (unknown(w)) return -1;
            int bits = 0;
            for (int s = 0; s <= 9; s++) {
                How how = with(w, s);
                if (seen.stream().filter(t -> t[0] == w).allMatch(t -> comes(how, w, t[1]) == (t[2] == 1))) bits += 1 << s;
            }
            return bits;
        }

        static long least(long upper, long below) {
            long divisor = BigInteger.valueOf(upper).gcd(BigInteger.valueOf(below)).longValue();
            return 100000L * (upper / divisor) + below / divisor;
        }

        long share(int w) {
            if (unknown(w)) return -1;
            long[] sums = new long[2];
            orders(new ArrayList<>(), w, sums);
            return least(sums[0], sums[1]);
        }

        /** All orders of the words; how many yards more when w comes, and how many orders there are. */
        private void orders(List<Integer> come, int w, long[] sums) {
            if (come.size() == kinds.size()) {
                int at = come.indexOf(w);
                sums[0] += covered(come.subList(0, at + 1)) - covered(come.subList(0, at));
                sums[1]++;
                return;
            }
            for (int next = 0; next < kinds.size(); next++) {
                if (come.contains(next)) continue;
                come.add(next);
                orders(come, w, sums);
                come.remove(come.size() - 1);
            }
        }

        private int covered(List<Integer> words) {
            int many = 0;
            for (int y = 0; y <= 9; y++) {
                int from = y;
                if (words.stream().anyMatch(w -> comes(now, w, from))) many++;
            }
            return many;
        }

        int rests(int v, int w, int what) {
            if (unknown(v) || unknown(w)) return -1;
            if (what < 0 || what > 1) return -2;
            List<Integer> rest = new ArrayList<>();
            for (int pair : new int[] {0, 1, 10, 11}) {
                int a = pair / 10;
                int b = pair % 10;
                boolean better = brings(v, 1 - a, b) > brings(v, a, b) || brings(w, 1 - b, a) > brings(w, b, a);
                if (!better) rest.add(pair);
            }
            if (what == 0) return rest.size();
            return rest.isEmpty() ? -9 : rest.get(0);
        }

        private int brings(int w, int calls, int other) {
            if (calls == 0) return 0;
            int power = power(now, w, now.yards) - (other == 1 ? 2 : 0);
            boolean came = power > 0 && power >= pullOf(things, now.yards);
            if (!came) return -1;
            return other == 1 ? 2 : 3;
        }

        long there(int w, int x) {
            if (unknown(w)) return -1;
            if (x < 0 || x > 10) return -2;
            return least(ways(w, x, 0, new ArrayList<>()), Math.round(Math.pow(10, things.size())));
        }

        private long ways(int w, int x, int next, List<int[]> there) {
            if (next == things.size()) {
                int power = power(now, w, now.yards);
                return power > 0 && power >= pullOf(there, now.yards) ? 1 : 0;
            }
            long without = ways(w, x, next + 1, there);
            List<int[]> more = new ArrayList<>(there);
            more.add(things.get(next));
            return (10 - x) * without + x * ways(w, x, next + 1, more);
        }

        int walks(int m) {
            if (m < 1 || m > 30) return -2;
            How how = now.copy();
            int came = 0;
            for (int i = 0; i < m; i++) {
                BigInteger next = BigInteger.valueOf(seed).multiply(new BigInteger("6364136223846793005"));
                seed = next.add(new BigInteger("1442695040888963407")).longValue();
                int draw = (int) (Long.parseLong(Long.toUnsignedString(seed >>> 33)) % 20);
                if (how.lead) continue;
                does(how, 60 + draw % 5);
                if (does(how, draw / 5 + 1) && how.owed != -9) {
                    came++;
                    does(how, 5);
                }
            }
            return came;
        }

        int keep(int slot) {
            if (slot < 0 || slot > 1) return -1;
            slots[slot] = now.copy();
            return now.calls;
        }

        int again(int slot) {
            if (slot < 0 || slot > 1) return -1;
            if (slots[slot] == null) return -3;
            now = slots[slot].copy();
            past.clear();
            return now.calls;
        }

        int count(int what) {
            int[] counts = {letters.length(), kinds.size(), things.size(), now.cheese, now.yards, now.owed,
                now.hungry ? 1 : 0, now.lead ? 1 : 0, now.calls, past.size(), seen.size()};
            return what < 0 || what >= counts.length ? -2 : counts[what];
        }
    }
}
