/-! REFUTED, in rows of this claim's own: at the EMPTY script the law's run ends with 34 new cells of 561 slots; the frame of both limbs pays for 401.
    The start is the printed witness's, with the empty script in the place of its script: same classes, same launch. -/
set_option maxRecDepth 16384
def rf_s : State := { start1.about with heap := #[{ cls := 11, slots := #[], vm := .none }], slotsUsed := 0 }
/-- words of the tables alone: they don't look at the heap -/
def rf_vm : Jvm.Cond → Bool
  | .code .. | .static .. | .fieldRef .. | .methodRef .. | .classRef .. | .classLink .. | .methodLink .. | .fieldLink .. | .methodLinkNest .. | .fieldLinkNest .. => true
  | .selects .. | .sameField .. | .sameMethod .. | .superclass .. | .noSuperclass .. | .soleField .. | .declares .. | .publicMethod .. | .privateMethod .. | .unhidden .. | .castable .. => true
  | .constant .. | .constantLong .. | .initialized .. | .instantiable .. | .lays .. | .laysFinal .. | .instanceMethod .. | .arrayClass .. | .arrayOver .. | .initializedFor .. => true
  | _ => false
theorem rf_same (s : State) (h : Heap) (n : Nat) (a : Array Value) (c : Jvm.Cond) (hc : rf_vm c = true) : c.before a { s with heap := h, slotsUsed := n } = c.before a s := by
  cases c <;> first | rfl | (simp [rf_vm] at hc)
theorem rf_all : (Cond.code x code maxLocals ret :: tables_1).all rf_vm = true := by decide +kernel
theorem rf_words : ∀ c ∈ (Cond.code x code maxLocals ret :: tables_1), c.before start1.args0 rf_s = true := by
  intro c hc
  have h := List.all_eq_true.mp rf_all c hc
  exact (rf_same start1.about _ _ start1.args0 c h).trans (start1.words c hc)
theorem rf_start : AtStart classFile x code maxLocals ret World_1 tables_1 room_1 Calls_1 rest_1 Pre_1 launch0 start1.p0 start1.e0 rf_s ⟨0, 0⟩ start1.args0 Lib.HandBits.below0 :=
  ⟨start1.atStart.1, trivial, launch0.admits_env _ _ _, launch0.least_env, fairChoices_fair.cas, fairChoices_fair.clock, rfl, by decide +kernel, by decide +kernel,
    (Spec.applies_iff rfl).mpr ⟨rfl, rfl, rfl, by decide +kernel, by decide +kernel, by decide +kernel, launch0.hasRoom_least _ room_1 (by decide +kernel) (by decide +kernel) (by decide +kernel) (by decide +kernel) (by decide +kernel) (by decide +kernel), atoms_intro rf_words⟩,
    trivial, (show rest_1_c.before start1.args0 rf_s = true by decide +kernel), (show (Cond.and given_1 narrow_1).before start1.args0 rf_s = true by decide +kernel)⟩
/-! the run, step by step, in the kernel -/
def rf_bare (g : NFrame) : Bool :=
  (Nat.beq g.method.cls 0 && Nat.beq g.method.idx 0 && Nat.beq g.args.size 0 && Nat.beq g.stage 0 && Nat.beq g.saved.size 0) && (!g.awaiting && g.answer.isNone && g.locked.isNone && Nat.beq g.words 0)
theorem rf_bare_eq {g : NFrame} (h : rf_bare g = true) : g = { method := ⟨0, 0⟩, args := #[] } := by
  obtain ⟨⟨c, i⟩, as, st, sv, aw, an, lo, w⟩ := g
  simp only [rf_bare, Bool.and_eq_true, Nat.beq_eq, Array.size_eq_zero_iff, Option.isNone_iff_eq_none, Bool.not_eq_true'] at h
  obtain ⟨⟨⟨⟨⟨h1, h2⟩, h3⟩, h4⟩, h5⟩, ⟨⟨h6, h7⟩, h8⟩, h9⟩ := h
  subst h1 h2 h3 h4 h5 h6 h7 h8 h9
  rfl
def rf_low : List Frame → Bool
  | [] => false
  | .native g :: [] => rf_bare g
  | _ :: r => rf_low r
theorem rf_low_eq : ∀ (l : List Frame), rf_low l = true → ∃ pre, l = pre ++ Lib.HandBits.below0
  | [], h => by simp [rf_low] at h
  | f :: [], h => by
    cases f <;> simp [rf_low] at h
    exact ⟨[], by rw [rf_bare_eq h]; rfl⟩
  | f :: g :: r, h => by
    have h' : rf_low (g :: r) = true := by cases f <;> simpa [rf_low] using h
    obtain ⟨pre, hp⟩ := rf_low_eq (g :: r) h'
    exact ⟨f :: pre, by rw [hp]; rfl⟩
def rf_in : List Frame → Bool
  | [] => false
  | .throwing _ :: _ => false
  | _ :: r => rf_low r
theorem rf_in_eq {s : State} (h : rf_in s.frames = true) : Within s Lib.HandBits.below0 := by
  cases hf : s.frames with
  | nil => rw [hf] at h; simp [rf_in] at h
  | cons f r =>
    rw [hf] at h
    have hr : rf_low r = true := by cases f <;> simp_all [rf_in]
    have ht : ∀ q, f ≠ .throwing q := by intro q hq; subst hq; simp [rf_in] at h
    obtain ⟨pre, hp⟩ := rf_low_eq r hr
    exact ⟨f :: pre, by rw [hf, hp]; rfl, by simp, by intro q hq; injection hq with h1 h2; exact ht q h1⟩
def rf_go (s : State) : Bool := match rf_in s.frames with
  | false => false
  | true => match s.status, s.curStatus? with
    | .running, some .runnable => s.alone
    | _, _ => false
theorem rf_go_eq {s : State} (h : rf_go s = true) : rf_in s.frames = true ∧ s.status = .running ∧ s.curStatus? = some .runnable ∧ s.alone = true := by
  unfold rf_go at h
  split at h
  · cases h
  · split at h
    · exact ⟨by assumption, by assumption, by assumption, h⟩
    · cases h
def rf_put {β : Type} (n : Nat) (f : Nat → β) : β := match n with
  | 0 => f 0
  | k + 1 => f (k + 1)
theorem rf_put_eq {β : Type} (n : Nat) (f : Nat → β) : rf_put n f = f n := by cases n <;> rfl
def rf_dec (b : ByteArray) (pc : Nat) : Except DecodeError (Instr × Nat) := match b with
  | ⟨⟨l⟩⟩ => rf_put pc (fun q => decode ⟨⟨l⟩⟩ q)
theorem rf_dec_eq (b : ByteArray) (pc : Nat) : rf_dec b pc = decode b pc := by
  obtain ⟨⟨l⟩⟩ := b
  exact rf_put_eq pc _
def rf_step (tb : Tables) (e : Env) (s : State) : State := match s.frames with
  | .java f :: _ => match overridden tb e s f with
    | some _ => (stepThread tb e s).1
    | none => match s.code? f.method with
      | none => (stepThread tb e s).1
      | some c => match rf_dec c.code f.pc with
        | .error _ => (stepThread tb e s).1
        | .ok (i, len) => (afterInstr e len ((tb.exec i).run e s)).1
  | _ => (stepThread tb e s).1
theorem rf_step_eq (tb : Tables) (e : Env) (s : State) : rf_step tb e s = (stepThread tb e s).1 := by
  unfold rf_step
  split
  · rename_i f r hf
    split
    · rfl
    · rename_i ho
      split
      · rfl
      · rename_i c hc
        split
        · rfl
        · rename_i i len hd0
          have hd : decode c.code f.pc = .ok (i, len) := by rw [← rf_dec_eq]; exact hd0
          unfold stepThread
          simp only [hf, ho, hc, hd, Option.map_some]
  · rfl
def rf_run (tb : Tables) (e : Env) (us : Nat) : Nat → State → Bool
  | 0, _ => false
  | n + 1, s => match rf_go s with
    | true => rf_run tb e us n (rf_step tb e s)
    | false => Nat.beq s.frames.length 1 && Nat.beq s.slotsUsed us
theorem rf_run_eq (tb : Tables) (e : Env) (us : Nat) : ∀ (n : Nat) (s : State), rf_run tb e us n s = true →
    ∃ k, (∀ j, j < k → Within (stepsAlone tb e j s) Lib.HandBits.below0) ∧ (stepsAlone tb e k s).frames.length = 1 ∧ (stepsAlone tb e k s).slotsUsed = us := by
  intro n
  induction n with
  | zero => intro s h; simp [rf_run] at h
  | succ n ih =>
    intro s h
    unfold rf_run at h
    split at h
    · rename_i hg
      obtain ⟨h1, h2, h3, h4⟩ := rf_go_eq hg
      rw [rf_step_eq] at h
      obtain ⟨k, hk, ht⟩ := ih _ h
      have hs : ∀ j, stepsAlone tb e (j + 1) s = stepsAlone tb e j (stepThread tb e s).1 := fun j => by simp only [stepsAlone, h2, h3, h4]
      refine ⟨k + 1, fun j hj => ?_, by rw [hs]; exact ht⟩
      cases j with
      | zero => exact rf_in_eq h1
      | succ j => rw [hs]; exact hk j (Nat.lt_of_succ_lt_succ hj)
    · simp only [Bool.and_eq_true, Nat.beq_eq] at h
      exact ⟨0, fun j hj => absurd hj (Nat.not_lt_zero j), h⟩
set_option maxRecDepth 100000 in
theorem rf_ran : rf_run start1.p0.tables start1.e0 561 2000 rf_s = true := by decide +kernel
/-- no claim whose frame pays for fewer than 561 slots can hold -/
theorem rf_not {Post : Tables → Env → Array Value → State → Outcome → State → Prop} {L : State → List Loc} {c m : Nat} (hm : m < 561)
    (hP : ∀ tb e a s o t, Post tb e a s o t → Jvm.D.Framed s o t (L s) c m) :
    ¬ Jvm.D.ArmFor flags0 classFile x code maxLocals ret World_1 tables_1 room_1 Calls_1 rest_1 Pre_1 Post := by
  intro hA
  obtain ⟨hL, hW, had, -, hcas, hclk, hfr, hfit, hheap, happ, hcalls, hrest, hpre⟩ := rf_start
  obtain ⟨n, o, hin, -, hend, hpost⟩ := hA launch0 rfl hL hW start1.p0 start1.e0 had hcas hclk rf_s ⟨0, 0⟩ start1.args0 Lib.HandBits.below0 hfr hfit hheap happ ⟨hcalls, hrest, hpre⟩
  obtain ⟨k, hk, hlen, hus⟩ := rf_run_eq _ _ _ _ _ rf_ran
  have hnk : n = k := by
    rcases Nat.lt_trichotomy n k with h | h | h
    · exact absurd (hk n h) hend.not_within
    · exact h
    · obtain ⟨above, ha, hne, -⟩ := hin k h
      rw [ha] at hlen
      cases above with
      | nil => exact absurd rfl hne
      | cons a r => simp [Lib.HandBits.below0] at hlen
  subst hnk
  obtain ⟨-, -, -, -, -, h4, h5, -⟩ := hP _ _ _ _ _ _ hpost
  have h6 : (stepsAlone start1.p0.tables start1.e0 n rf_s).slotsUsed = rf_s.slotsUsed + _ := h4
  have h7 := hus.symm.trans h6
  have h8 : rf_s.slotsUsed = 0 := rfl
  omega
theorem rf_not_1 : ¬ Claimed_1_1 := rf_not (c := 34) (m := 401) (by decide) (fun _ _ _ _ _ _ h => h.2)
theorem rf_not_2 : ¬ Claimed_1_2 := rf_not (c := 34) (m := 401) (by decide) (fun _ _ _ _ _ _ h => h.2)
theorem rf_none : ¬ (Claimed_1_1 ∧ Claimed_1_2) := fun h => rf_not_1 h.1
