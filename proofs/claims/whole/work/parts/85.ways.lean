/-! ways to share looks: pure -/
abbrev okT : Type := Nat → Option Nat → Nat → Bool
def sg (s : Nat → Option Nat) (r l : Nat) : Nat → Option Nat := fun x => if x = r then some l else s x
def wy (K : okT) (Rs : List Nat) : List Nat → (Nat → Option Nat) → List (List Nat)
  | [], _ => [[]]
  | l :: t, s => Rs.flatMap (fun r => if K r (s r) l = true then (wy K Rs t (sg s r l)).map (fun w => r :: w) else [])
def ft (K : okT) (r : Nat) : Option Nat → List Nat → Bool
  | _, [] => true
  | p, l :: t => K r p l && ft K r (some l) t
def sp : List Nat → List (List Nat × List Nat)
  | [] => [([], [])]
  | l :: t => (sp t).map (fun q => (q.1, l :: q.2)) ++ (sp t).map (fun q => (l :: q.1, q.2))
def smF {α : Type} (f : α → Nat) : List α → Nat
  | [] => 0
  | x :: t => f x + smF f t
theorem smF_app {α : Type} (f : α → Nat) : ∀ a b : List α, smF f (a ++ b) = smF f a + smF f b
  | [], b => by show smF f b = 0 + smF f b; omega
  | x :: a, b => by
    show f x + smF f (a ++ b) = f x + smF f a + smF f b
    rw [smF_app f a b]
    omega
theorem smF_map {α β : Type} (f : β → Nat) (g : α → β) : ∀ a : List α, smF f (a.map g) = smF (fun x => f (g x)) a
  | [] => rfl
  | x :: a => by
    show f (g x) + smF f (a.map g) = f (g x) + smF (fun x => f (g x)) a
    rw [smF_map f g a]
theorem smF_add {α : Type} (f g : α → Nat) : ∀ a : List α, smF (fun x => f x + g x) a = smF f a + smF g a
  | [] => rfl
  | x :: a => by
    show f x + g x + smF (fun x => f x + g x) a = f x + smF f a + (g x + smF g a)
    rw [smF_add f g a]
    omega
theorem smF_c {α : Type} {f g : α → Nat} : ∀ {a : List α}, (∀ x, x ∈ a → f x = g x) → smF f a = smF g a
  | [], _ => rfl
  | x :: a, h => by
    show f x + smF f a = g x + smF g a
    rw [h x List.mem_cons_self, smF_c (fun y hy => h y (List.mem_cons_of_mem x hy))]
theorem smF_0 {α : Type} : ∀ a : List α, smF (fun _ => 0) a = 0
  | [] => rfl
  | _ :: a => by
    show 0 + smF (fun _ => 0) a = 0
    rw [smF_0 a]
theorem smF_sw {α β : Type} (f : α → β → Nat) : ∀ (a : List α) (b : List β), smF (fun x => smF (f x) b) a = smF (fun y => smF (fun x => f x y) a) b
  | [], b => (smF_0 b).symm
  | x :: a, b => by
    show smF (f x) b + smF (fun x => smF (f x) b) a = smF (fun y => f x y + smF (fun x => f x y) a) b
    rw [smF_add, smF_sw f a b]
theorem smF_perm {α : Type} (f : α → Nat) {a b : List α} (h : a.Perm b) : smF f a = smF f b := by
  induction h with
  | nil => rfl
  | cons x _ ih => show f x + _ = f x + _; rw [ih]
  | swap x y l => show f y + (f x + smF f l) = f x + (f y + smF f l); omega
  | trans _ _ h1 h2 => exact h1.trans h2
theorem smF_if {α : Type} {c : Prop} [Decidable c] (f : α → Nat) (a : List α) : (if c then smF f a else 0) = smF (fun x => if c then f x else 0) a := by
  by_cases h : c
  · rw [if_pos h]
    exact smF_c (fun x _ => (if_pos h).symm)
  · rw [if_neg h]
    rw [smF_c (g := fun _ => 0) (fun x _ => if_neg h), smF_0]
def nw (K : okT) (Rs : List Nat) (l : List Nat) (s : Nat → Option Nat) : Nat := (wy K Rs l s).length
theorem len_fm {α β : Type} (g : α → List β) : ∀ a : List α, (a.flatMap g).length = smF (fun x => (g x).length) a
  | [] => rfl
  | x :: a => by
    show (g x ++ a.flatMap g).length = (g x).length + smF (fun x => (g x).length) a
    rw [List.length_append, len_fm g a]
theorem nw_s (K : okT) (Rs : List Nat) (l : Nat) (t : List Nat) (s : Nat → Option Nat) : nw K Rs (l :: t) s = smF (fun r => if K r (s r) l = true then nw K Rs t (sg s r l) else 0) Rs := by
  show (Rs.flatMap _).length = _
  rw [len_fm]
  refine smF_c (fun r _ => ?_)
  by_cases h : K r (s r) l = true
  · rw [if_pos h, if_pos h, List.length_map]
    rfl
  · rw [if_neg h, if_neg h]
    rfl
theorem wy_c (K : okT) (Rs : List Nat) : ∀ (ls : List Nat) (s s' : Nat → Option Nat), (∀ r, r ∈ Rs → s r = s' r) → wy K Rs ls s = wy K Rs ls s'
  | [], _, _, _ => rfl
  | l :: t, s, s', h => by
    show Rs.flatMap (fun r => if K r (s r) l = true then (wy K Rs t (sg s r l)).map (fun w => r :: w) else []) = Rs.flatMap (fun r => if K r (s' r) l = true then (wy K Rs t (sg s' r l)).map (fun w => r :: w) else [])
    have e : ∀ Qs : List Nat, (∀ r, r ∈ Qs → r ∈ Rs) → Qs.flatMap (fun r => if K r (s r) l = true then (wy K Rs t (sg s r l)).map (fun w => r :: w) else []) = Qs.flatMap (fun r => if K r (s' r) l = true then (wy K Rs t (sg s' r l)).map (fun w => r :: w) else []) := by
      intro Qs
      induction Qs with
      | nil => intro _; rfl
      | cons q Qs ih =>
        intro hq
        show (if K q (s q) l = true then (wy K Rs t (sg s q l)).map (fun w => q :: w) else []) ++ Qs.flatMap _ = (if K q (s' q) l = true then (wy K Rs t (sg s' q l)).map (fun w => q :: w) else []) ++ Qs.flatMap _
        rw [ih (fun r hr => hq r (List.mem_cons_of_mem q hr)), h q (hq q List.mem_cons_self), wy_c K Rs t (sg s q l) (sg s' q l) (fun r hr => by
          unfold sg
          by_cases e : r = q
          · rw [if_pos e, if_pos e]
          · rw [if_neg e, if_neg e]; exact h r hr)]
    exact e Rs (fun _ h => h)
/-- one reader more -/
theorem nw_add (K : okT) (Rs : List Nat) (r : Nat) (hr : r ∉ Rs) : ∀ (ls : List Nat) (s : Nat → Option Nat), nw K (Rs ++ [r]) ls s = smF (fun q => if ft K r (s r) q.1 = true then nw K Rs q.2 s else 0) (sp ls)
  | [], s => rfl
  | l :: t, s => by
    have hx : ∀ x, x ∈ Rs → x ≠ r := fun x hx e => hr (e ▸ hx)
    rw [nw_s, smF_app]
    show _ + (smF _ [r]) = smF _ ((sp t).map (fun q => (q.1, l :: q.2)) ++ (sp t).map (fun q => (l :: q.1, q.2)))
    rw [smF_app, smF_map, smF_map]
    congr 1
    · have e1 : smF (fun x => if K x (s x) l = true then nw K (Rs ++ [r]) t (sg s x l) else 0) Rs = smF (fun x => smF (fun q => if K x (s x) l = true then (if ft K r (s r) q.1 = true then nw K Rs q.2 (sg s x l) else 0) else 0) (sp t)) Rs := by
        refine smF_c (fun x hxm => ?_)
        rw [nw_add K Rs r hr t (sg s x l), show sg s x l r = s r from if_neg (fun e => hx x hxm e.symm), smF_if]
      rw [e1, smF_sw]
      refine smF_c (fun q _ => ?_)
      show smF (fun x => if K x (s x) l = true then (if ft K r (s r) q.1 = true then nw K Rs q.2 (sg s x l) else 0) else 0) Rs = if ft K r (s r) q.1 = true then nw K Rs (l :: q.2) s else 0
      by_cases g : ft K r (s r) q.1 = true
      · rw [if_pos g, nw_s]
        refine smF_c (fun x _ => ?_)
        rw [if_pos g]
      · rw [if_neg g]
        rw [smF_c (g := fun _ => 0) (fun x _ => by rw [if_neg g]; by_cases k : K x (s x) l = true; rw [if_pos k]; rw [if_neg k]), smF_0]
    · show (if K r (s r) l = true then nw K (Rs ++ [r]) t (sg s r l) else 0) + 0 = _
      rw [Nat.add_zero, nw_add K Rs r hr t (sg s r l), show sg s r l r = some l from if_pos rfl, smF_if]
      refine smF_c (fun q _ => ?_)
      show (if K r (s r) l = true then (if ft K r (some l) q.1 = true then nw K Rs q.2 (sg s r l) else 0) else 0) = if (K r (s r) l && ft K r (some l) q.1) = true then nw K Rs q.2 s else 0
      have e2 : nw K Rs q.2 (sg s r l) = nw K Rs q.2 s := by
        unfold nw
        rw [wy_c K Rs q.2 (sg s r l) s (fun x hxm => if_neg (hx x hxm))]
      rw [e2]
      by_cases k : K r (s r) l = true
      · rw [if_pos k, k, Bool.true_and]
      · rw [if_neg k]
        have k2 : K r (s r) l = false := by simpa using k
        rw [k2, Bool.false_and]
        rfl
/-! masks -/
def sel : List Nat → Nat → List Nat
  | [], _ => []
  | x :: t, m => if m % 2 = 1 then x :: sel t (m / 2) else sel t (m / 2)
def sln : List Nat → Nat → List Nat
  | [], _ => []
  | x :: t, m => if m % 2 = 1 then sln t (m / 2) else x :: sln t (m / 2)
def mo (r : Nat) : List Nat → Nat
  | [] => 0
  | a :: w => (if a = r then 1 else 0) + 2 * mo r w
theorem wy_f (K : okT) (Rs : List Nat) {r : Nat} (hr : r ∈ Rs) : ∀ (ls : List Nat) (s : Nat → Option Nat) (w : List Nat), w ∈ wy K Rs ls s → w.length = ls.length ∧ mo r w < 2 ^ ls.length ∧ ft K r (s r) (sel ls (mo r w)) = true ∧ (w.filter (fun x => !(decide (x = r)))) ∈ wy K (Rs.filter (fun x => !(decide (x = r)))) (sln ls (mo r w)) s
  | [], s, w, h => by
    have e : w = [] := by simpa [wy] using h
    subst e
    exact ⟨rfl, by show 0 < 1; decide, rfl, List.mem_cons_self⟩
  | l :: t, s, w, h => by
    have h : w ∈ Rs.flatMap (fun r => if K r (s r) l = true then (wy K Rs t (sg s r l)).map (fun w => r :: w) else []) := h
    obtain ⟨a, ha, hw⟩ := List.mem_flatMap.1 h
    by_cases k : K a (s a) l = true
    · rw [if_pos k] at hw
      obtain ⟨v, hv, rfl⟩ := List.mem_map.1 hw
      obtain ⟨i1, i2, i3, i4⟩ := wy_f K Rs hr t (sg s a l) v hv
      have hp : 2 ^ (t.length + 1) = 2 * 2 ^ t.length := by rw [Nat.pow_succ]; omega
      by_cases e : a = r
      · subst e
        have em : mo a (a :: v) = 1 + 2 * mo a v := by show (if a = a then 1 else 0) + 2 * mo a v = _; rw [if_pos rfl]
        rw [em]
        refine ⟨by show v.length + 1 = t.length + 1; omega, by show 1 + 2 * mo a v < 2 ^ (t.length + 1); omega, ?_, ?_⟩
        · show ft K a (s a) (if (1 + 2 * mo a v) % 2 = 1 then l :: sel t ((1 + 2 * mo a v) / 2) else sel t ((1 + 2 * mo a v) / 2)) = true
          rw [if_pos (by omega), show (1 + 2 * mo a v) / 2 = mo a v by omega]
          show (K a (s a) l && ft K a (some l) (sel t (mo a v))) = true
          rw [k, Bool.true_and]
          have : sg s a l a = some l := if_pos rfl
          rw [this] at i3
          exact i3
        · show (List.filter _ (a :: v)) ∈ wy K _ (if (1 + 2 * mo a v) % 2 = 1 then sln t ((1 + 2 * mo a v) / 2) else l :: sln t ((1 + 2 * mo a v) / 2)) s
          rw [if_pos (by omega), show (1 + 2 * mo a v) / 2 = mo a v by omega, List.filter_cons_of_neg (by simp)]
          rw [wy_c K (Rs.filter (fun x => !(decide (x = a)))) (sln t (mo a v)) s (sg s a l) (fun x hx => by
            have : x ≠ a := by simpa using (List.mem_filter.1 hx).2
            exact (if_neg this).symm)]
          exact i4
      · have em : mo r (a :: v) = 2 * mo r v := by show (if a = r then 1 else 0) + 2 * mo r v = _; rw [if_neg e]; omega
        rw [em]
        refine ⟨by show v.length + 1 = t.length + 1; omega, by show 2 * mo r v < 2 ^ (t.length + 1); omega, ?_, ?_⟩
        · show ft K r (s r) (if (2 * mo r v) % 2 = 1 then l :: sel t ((2 * mo r v) / 2) else sel t ((2 * mo r v) / 2)) = true
          rw [if_neg (by omega), show (2 * mo r v) / 2 = mo r v by omega]
          have : sg s a l r = s r := if_neg (fun z => e z.symm)
          rw [this] at i3
          exact i3
        · show (List.filter _ (a :: v)) ∈ wy K _ (if (2 * mo r v) % 2 = 1 then sln t ((2 * mo r v) / 2) else l :: sln t ((2 * mo r v) / 2)) s
          rw [if_neg (by omega), show (2 * mo r v) / 2 = mo r v by omega, List.filter_cons_of_pos (by simp [e])]
          show _ ∈ List.flatMap _ _
          refine List.mem_flatMap.2 ⟨a, List.mem_filter.2 ⟨ha, by simp [e]⟩, ?_⟩
          rw [if_pos k]
          exact List.mem_map.2 ⟨_, i4, rfl⟩
    · rw [if_neg k] at hw
      cases hw
theorem wy_b (K : okT) (Rs : List Nat) {r : Nat} (hr : r ∈ Rs) : ∀ (ls : List Nat) (s : Nat → Option Nat) (m : Nat) (v : List Nat), m < 2 ^ ls.length → ft K r (s r) (sel ls m) = true → v ∈ wy K (Rs.filter (fun x => !(decide (x = r)))) (sln ls m) s → ∃ w, w ∈ wy K Rs ls s ∧ mo r w = m
  | [], s, m, v, hm, _, _ => ⟨[], List.mem_cons_self, by have : m < 1 := hm; show 0 = m; omega⟩
  | l :: t, s, m, v, hm, hf, hv => by
    have hm : m < 2 ^ (t.length + 1) := hm
    have hp : 2 ^ (t.length + 1) = 2 * 2 ^ t.length := by rw [Nat.pow_succ]; omega
    have hf : ft K r (s r) (if m % 2 = 1 then l :: sel t (m / 2) else sel t (m / 2)) = true := hf
    have hv : v ∈ wy K _ (if m % 2 = 1 then sln t (m / 2) else l :: sln t (m / 2)) s := hv
    by_cases e : m % 2 = 1
    · rw [if_pos e] at hf hv
      have hf : (K r (s r) l && ft K r (some l) (sel t (m / 2))) = true := hf
      rw [Bool.and_eq_true] at hf
      rw [wy_c K (Rs.filter (fun x => !(decide (x = r)))) (sln t (m / 2)) s (sg s r l) (fun x hx => by
        have : x ≠ r := by simpa using (List.mem_filter.1 hx).2
        exact (if_neg this).symm)] at hv
      obtain ⟨w, h1, h2⟩ := wy_b K Rs hr t (sg s r l) (m / 2) v (by omega) (by rw [show sg s r l r = some l from if_pos rfl]; exact hf.2) hv
      refine ⟨r :: w, ?_, ?_⟩
      · refine List.mem_flatMap.2 ⟨r, hr, ?_⟩
        rw [if_pos hf.1]
        exact List.mem_map.2 ⟨w, h1, rfl⟩
      · show (if r = r then 1 else 0) + 2 * mo r w = m
        rw [if_pos rfl, h2]; omega
    · rw [if_neg e] at hf hv
      have hv : v ∈ List.flatMap _ _ := hv
      obtain ⟨a, ha, hw⟩ := List.mem_flatMap.1 hv
      obtain ⟨ha1, ha2⟩ := List.mem_filter.1 ha
      have ha2 : a ≠ r := by simpa using ha2
      by_cases k : K a (s a) l = true
      · rw [if_pos k] at hw
        obtain ⟨v', hv', rfl⟩ := List.mem_map.1 hw
        obtain ⟨w, h1, h2⟩ := wy_b K Rs hr t (sg s a l) (m / 2) v' (by omega) (by rw [show sg s a l r = s r from if_neg (fun z => ha2 z.symm)]; exact hf) hv'
        refine ⟨a :: w, ?_, ?_⟩
        · refine List.mem_flatMap.2 ⟨a, ha1, ?_⟩
          rw [if_pos k]
          exact List.mem_map.2 ⟨w, h1, rfl⟩
        · show (if a = r then 1 else 0) + 2 * mo r w = m
          rw [if_neg ha2, h2]; omega
      · rw [if_neg k] at hw
        cases hw
theorem nw_pos {K : okT} {Rs ls : List Nat} {s : Nat → Option Nat} : 0 < nw K Rs ls s ↔ ∃ w, w ∈ wy K Rs ls s := by
  unfold nw
  exact ⟨fun h => List.exists_mem_of_length_pos h, fun ⟨w, hw⟩ => List.length_pos_of_mem hw⟩
/-- a reader has just that set in some way -/
theorem hap (K : okT) (Rs : List Nat) {r : Nat} (hr : r ∈ Rs) (ls : List Nat) (s : Nat → Option Nat) (m : Nat) (hm : m < 2 ^ ls.length) : (ft K r (s r) (sel ls m) = true ∧ 0 < nw K (Rs.filter (fun x => !(decide (x = r)))) (sln ls m) s) ↔ ∃ w, w ∈ wy K Rs ls s ∧ mo r w = m := by
  constructor
  · rintro ⟨h1, h2⟩
    obtain ⟨v, hv⟩ := nw_pos.1 h2
    exact wy_b K Rs hr ls s m v hm h1 hv
  · rintro ⟨w, h1, rfl⟩
    obtain ⟨-, -, i3, i4⟩ := wy_f K Rs hr ls s w h1
    exact ⟨i3, nw_pos.2 ⟨_, i4⟩⟩
/-- all masks within a mask of n bits -/
def sbm : Nat → Nat → List Nat
  | 0, _ => [0]
  | n + 1, m => if m % 2 = 1 then (sbm n (m / 2)).map (fun o => 2 * o) ++ (sbm n (m / 2)).map (fun o => 2 * o + 1) else (sbm n (m / 2)).map (fun o => 2 * o)
theorem sbm_sp : ∀ (ls : List Nat) (m : Nat), m < 2 ^ ls.length → (sbm ls.length m).map (fun o => (sel ls o, sel ls (m - o))) = sp (sel ls m) ∧ ∀ o, o ∈ sbm ls.length m → o ≤ m ∧ o &&& m = o
  | [], m, hm => by
    have : m = 0 := by have : m < 1 := hm; omega
    subst this
    exact ⟨rfl, fun o ho => by have : o = 0 := by simpa [sbm] using ho
                               subst this
                               exact ⟨Nat.le_refl _, rfl⟩⟩
  | x :: t, m, hm => by
    have hm : m < 2 ^ (t.length + 1) := hm
    have hp : 2 ^ (t.length + 1) = 2 * 2 ^ t.length := by rw [Nat.pow_succ]; omega
    obtain ⟨h1, h2⟩ := sbm_sp t (m / 2) (by omega)
    have bit0 : ∀ o m' : Nat, (2 * o) &&& (2 * m') = 2 * (o &&& m') := fun o m' => by
      apply Nat.eq_of_testBit_eq
      intro i
      cases i with
      | zero => simp [Nat.testBit_zero]
      | succ i => rw [Nat.testBit_and, Nat.testBit_succ, Nat.testBit_succ, Nat.testBit_succ, show 2 * o / 2 = o by omega, show 2 * m' / 2 = m' by omega, show 2 * (o &&& m') / 2 = o &&& m' by omega, Nat.testBit_and]
    have bit1 : ∀ o m' : Nat, (2 * o + 1) &&& (2 * m' + 1) = 2 * (o &&& m') + 1 := fun o m' => by
      apply Nat.eq_of_testBit_eq
      intro i
      cases i with
      | zero => simp [Nat.testBit_zero]
      | succ i => rw [Nat.testBit_and, Nat.testBit_succ, Nat.testBit_succ, Nat.testBit_succ, show (2 * o + 1) / 2 = o by omega, show (2 * m' + 1) / 2 = m' by omega, show (2 * (o &&& m') + 1) / 2 = o &&& m' by omega, Nat.testBit_and]
    have bit2 : ∀ o m' : Nat, (2 * o) &&& (2 * m' + 1) = 2 * (o &&& m') := fun o m' => by
      apply Nat.eq_of_testBit_eq
      intro i
      cases i with
      | zero => simp [Nat.testBit_zero]
      | succ i => rw [Nat.testBit_and, Nat.testBit_succ, Nat.testBit_succ, Nat.testBit_succ, show 2 * o / 2 = o by omega, show (2 * m' + 1) / 2 = m' by omega, show 2 * (o &&& m') / 2 = o &&& m' by omega, Nat.testBit_and]
    show (if m % 2 = 1 then (sbm t.length (m / 2)).map (fun o => 2 * o) ++ (sbm t.length (m / 2)).map (fun o => 2 * o + 1) else (sbm t.length (m / 2)).map (fun o => 2 * o)).map _ = sp (if m % 2 = 1 then x :: sel t (m / 2) else sel t (m / 2)) ∧ ∀ o, o ∈ (if m % 2 = 1 then (sbm t.length (m / 2)).map (fun o => 2 * o) ++ (sbm t.length (m / 2)).map (fun o => 2 * o + 1) else (sbm t.length (m / 2)).map (fun o => 2 * o)) → o ≤ m ∧ o &&& m = o
    by_cases e : m % 2 = 1
    · rw [if_pos e, if_pos e]
      refine ⟨?_, fun o ho => ?_⟩
      · rw [List.map_append, List.map_map, List.map_map]
        show _ = (sp (sel t (m / 2))).map (fun q => (q.1, x :: q.2)) ++ (sp (sel t (m / 2))).map (fun q => (x :: q.1, q.2))
        rw [← h1, List.map_map, List.map_map]
        congr 1
        · refine List.map_congr_left (fun o ho => ?_)
          have := (h2 o ho).1
          show ((if (2 * o) % 2 = 1 then x :: sel t ((2 * o) / 2) else sel t ((2 * o) / 2)), (if (m - 2 * o) % 2 = 1 then x :: sel t ((m - 2 * o) / 2) else sel t ((m - 2 * o) / 2))) = (sel t o, x :: sel t (m / 2 - o))
          rw [if_neg (by omega), if_pos (by omega), show (2 * o) / 2 = o by omega, show (m - 2 * o) / 2 = m / 2 - o by omega]
        · refine List.map_congr_left (fun o ho => ?_)
          have := (h2 o ho).1
          show ((if (2 * o + 1) % 2 = 1 then x :: sel t ((2 * o + 1) / 2) else sel t ((2 * o + 1) / 2)), (if (m - (2 * o + 1)) % 2 = 1 then x :: sel t ((m - (2 * o + 1)) / 2) else sel t ((m - (2 * o + 1)) / 2))) = (x :: sel t o, sel t (m / 2 - o))
          rw [if_pos (by omega), if_neg (by omega), show (2 * o + 1) / 2 = o by omega, show (m - (2 * o + 1)) / 2 = m / 2 - o by omega]
      · have em : m = 2 * (m / 2) + 1 := by omega
        rcases List.mem_append.1 ho with ho | ho
        · obtain ⟨o', ho', rfl⟩ := List.mem_map.1 ho
          obtain ⟨i1, i2⟩ := h2 o' ho'
          refine ⟨by omega, ?_⟩
          rw [em, bit2, i2]
        · obtain ⟨o', ho', rfl⟩ := List.mem_map.1 ho
          obtain ⟨i1, i2⟩ := h2 o' ho'
          refine ⟨by omega, ?_⟩
          rw [em, bit1, i2]
    · rw [if_neg e, if_neg e]
      refine ⟨?_, fun o ho => ?_⟩
      · rw [List.map_map, ← h1]
        refine List.map_congr_left (fun o ho => ?_)
        have := (h2 o ho).1
        show ((if (2 * o) % 2 = 1 then x :: sel t ((2 * o) / 2) else sel t ((2 * o) / 2)), (if (m - 2 * o) % 2 = 1 then x :: sel t ((m - 2 * o) / 2) else sel t ((m - 2 * o) / 2))) = (sel t o, sel t (m / 2 - o))
        rw [if_neg (by omega), if_neg (by omega), show (2 * o) / 2 = o by omega, show (m - 2 * o) / 2 = m / 2 - o by omega]
      · have em : m = 2 * (m / 2) := by omega
        obtain ⟨o', ho', rfl⟩ := List.mem_map.1 ho
        obtain ⟨i1, i2⟩ := h2 o' ho'
        refine ⟨by omega, ?_⟩
        rw [em, bit0, i2]
