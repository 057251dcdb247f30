/-! POSITIONS, base 65536 -/
def ev (g : Nat → Int) : Nat → Int
  | 0 => 0
  | n + 1 => ev g n + g n * 65536 ^ n
theorem ev_0 (g : Nat → Int) : ev g 0 = 0 := rfl
theorem ev_s (g : Nat → Int) (n : Nat) : ev g (n + 1) = ev g n + g n * 65536 ^ n := rfl
theorem ep_s (n : Nat) : (65536 : Int) ^ (n + 1) = 65536 ^ n * 65536 := Int.pow_succ _ _
theorem ep_pos (n : Nat) : (0 : Int) < 65536 ^ n := Int.pow_pos (by decide)
theorem ep_le {a b : Nat} (h : a ≤ b) : (65536 : Int) ^ a ≤ 65536 ^ b := by
  induction h with
  | refl => exact Int.le_refl _
  | step h ih =>
    rename_i k
    have e := ep_s k
    have h2 := ep_pos k
    show (65536 : Int) ^ a ≤ 65536 ^ (k + 1)
    omega
theorem ep_add (a b : Nat) : (65536 : Int) ^ (a + b) = 65536 ^ a * 65536 ^ b := Int.pow_add _ _ _
theorem ev_congr {g h : Nat → Int} {n : Nat} (e : ∀ i, i < n → g i = h i) : ev g n = ev h n := by
  induction n with
  | zero => rfl
  | succ n ih => rw [ev_s, ev_s, ih (fun i hi => e i (by omega)), e n (by omega)]
/-- its parts are parts -/
def eg (g : Nat → Int) (n : Nat) : Prop := ∀ i, i < n → 0 ≤ g i ∧ g i < 65536
theorem eg.sub {g : Nat → Int} {n k : Nat} (h : eg g n) (hk : k ≤ n) : eg g k := fun i hi => h i (by omega)
theorem eg.up {g : Nat → Int} {n k : Nat} {x : Int} (h : eg g n) (hx : 0 ≤ x ∧ x < 65536) : eg (upI g k x) n := fun i hi => by
  by_cases q : i = k
  · subst q; rw [upI_self]; exact hx
  · rw [upI_ne _ _ q]; exact h i hi
theorem eg.up_s {g : Nat → Int} {n : Nat} {x : Int} (h : eg g n) (hx : 0 ≤ x ∧ x < 65536) : eg (upI g n x) (n + 1) := fun i hi => by
  by_cases q : i = n
  · subst q; rw [upI_self]; exact hx
  · rw [upI_ne _ _ q]; exact h i (by omega)
theorem ev_up_ge {g : Nat → Int} {n k : Nat} {x : Int} (h : n ≤ k) : ev (upI g k x) n = ev g n := ev_congr fun i hi => upI_ne _ _ (by omega)
theorem ev_up_s {g : Nat → Int} {n : Nat} {x : Int} : ev (upI g n x) (n + 1) = ev g n + x * 65536 ^ n := by
  rw [ev_s, ev_up_ge (Nat.le_refl n), upI_self]
theorem ev_up {g : Nat → Int} {n k : Nat} {x : Int} (h : k < n) : ev (upI g k x) n = ev g n + (x - g k) * 65536 ^ k := by
  induction n with
  | zero => omega
  | succ n ih =>
    rcases Nat.lt_or_ge k n with q | q
    · rw [ev_s, ev_s, ih q, upI_ne _ _ (by omega)]
      omega
    · obtain rfl : k = n := by omega
      rw [ev_up_s, ev_s, Int.sub_mul]
      omega
theorem ev_nn {g : Nat → Int} {n : Nat} (h : eg g n) : 0 ≤ ev g n := by
  induction n with
  | zero => exact Int.le_refl _
  | succ n ih =>
    have h1 := ih (h.sub (by omega))
    have h2 := Int.mul_nonneg (h n (by omega)).1 (Int.le_of_lt (ep_pos n))
    rw [ev_s]
    omega
theorem ev_lt {g : Nat → Int} {n : Nat} (h : eg g n) : ev g n < 65536 ^ n := by
  induction n with
  | zero => show (0 : Int) < 1; decide
  | succ n ih =>
    have h1 := ih (h.sub (by omega))
    have h2 : g n * 65536 ^ n ≤ 65535 * 65536 ^ n := Int.mul_le_mul_of_nonneg_right (by have := (h n (by omega)).2; omega) (Int.le_of_lt (ep_pos n))
    have e := ep_s n
    rw [ev_s]
    omega
theorem ev_ge {g : Nat → Int} {n : Nat} (h : eg g (n + 1)) (ht : g n ≠ 0) : 65536 ^ n ≤ ev g (n + 1) := by
  have h1 := ev_nn (h.sub (Nat.le_succ n))
  have h0 := (h n (by omega)).1
  have h2 : 1 * 65536 ^ n ≤ g n * 65536 ^ n := Int.mul_le_mul_of_nonneg_right (by omega) (Int.le_of_lt (ep_pos n))
  rw [ev_s]
  omega
theorem ev_trim {g : Nat → Int} {n k : Nat} (hk : n ≤ k) (h : ∀ i, n ≤ i → i < k → g i = 0) : ev g k = ev g n := by
  induction hk with
  | refl => rfl
  | step hk ih =>
    rename_i k
    rw [show ev g k.succ = ev g k + g k * 65536 ^ k from rfl, h k hk (by omega), Int.zero_mul, Int.add_zero]
    exact ih (fun i h1 h2 => h i h1 (by omega))
theorem ev_split (g : Nat → Int) (n m : Nat) : ev g (n + m) = ev g n + 65536 ^ n * ev (fun i => g (n + i)) m := by
  induction m with
  | zero => rw [Nat.add_zero, ev_0, Int.mul_zero, Int.add_zero]
  | succ m ih =>
    rw [← Nat.add_assoc, ev_s, ih, ev_s, ep_add, Int.mul_add]
    have : g (n + m) * (65536 ^ n * 65536 ^ m) = 65536 ^ n * (g (n + m) * 65536 ^ m) := by
      rw [← Int.mul_assoc, Int.mul_comm (g (n + m)), Int.mul_assoc]
    omega
/-- the parts below a size, nothing above it -/
def qz (g : Nat → Int) (n : Nat) : Nat → Int := fun i => if i < n then g i else 0
theorem qz_lt {g : Nat → Int} {n i : Nat} (h : i < n) : qz g n i = g i := by simp [qz, h]
theorem qz_ge {g : Nat → Int} {n i : Nat} (h : n ≤ i) : qz g n i = 0 := by simp [qz, Nat.not_lt.mpr h]
theorem qz_dg {g : Nat → Int} {n : Nat} (h : eg g n) (k : Nat) : eg (qz g n) k := fun i _ => by
  by_cases q : i < n
  · rw [qz_lt q]; exact h i q
  · rw [qz_ge (by omega)]; decide
theorem ev_pz {g : Nat → Int} {n k : Nat} (h : n ≤ k) : ev (qz g n) k = ev g n := by
  rw [ev_trim h (fun i h1 _ => qz_ge h1)]
  exact ev_congr fun i hi => qz_lt hi
/-- two rows of the same number are the same -/
theorem ev_inj {g h : Nat → Int} {n : Nat} (hg : eg g n) (hh : eg h n) (e : ev g n = ev h n) : ∀ i, i < n → g i = h i := by
  induction n with
  | zero => intro i hi; omega
  | succ n ih =>
    rw [ev_s, ev_s] at e
    have a1 := ev_nn (hg.sub (Nat.le_succ n))
    have a2 := ev_lt (hg.sub (Nat.le_succ n))
    have b1 := ev_nn (hh.sub (Nat.le_succ n))
    have b2 := ev_lt (hh.sub (Nat.le_succ n))
    have ht : g n = h n := by
      rcases Int.lt_trichotomy (g n) (h n) with q | q | q
      · have := Int.mul_le_mul_of_nonneg_right (show g n + 1 ≤ h n by omega) (Int.le_of_lt (ep_pos n))
        rw [Int.add_mul, Int.one_mul] at this
        omega
      · exact q
      · have := Int.mul_le_mul_of_nonneg_right (show h n + 1 ≤ g n by omega) (Int.le_of_lt (ep_pos n))
        rw [Int.add_mul, Int.one_mul] at this
        omega
    rw [ht] at e
    intro i hi
    rcases Nat.lt_or_ge i n with q | q
    · exact ih (hg.sub (Nat.le_succ n)) (hh.sub (Nat.le_succ n)) (by omega) i q
    · rw [show i = n by omega]; exact ht
/-- the first part from above that differs tells which is more -/
theorem ev_cmp {g h : Nat → Int} {n k : Nat} (hg : eg g n) (hh : eg h n) (hk : k < n) (he : ∀ i, k < i → i < n → g i = h i) (hlt : g k < h k) : ev g n < ev h n := by
  induction n with
  | zero => omega
  | succ n ih =>
    rw [ev_s, ev_s]
    rcases Nat.lt_or_ge k n with q | q
    · have := ih (hg.sub (Nat.le_succ n)) (hh.sub (Nat.le_succ n)) q (fun i h1 h2 => he i h1 (by omega))
      rw [he n q (by omega)]
      omega
    · have hkn : k = n := by omega
      subst hkn
      have a2 := ev_lt (hg.sub (Nat.le_succ k))
      have b1 := ev_nn (hh.sub (Nat.le_succ k))
      have := Int.mul_le_mul_of_nonneg_right (show g k + 1 ≤ h k by omega) (Int.le_of_lt (ep_pos k))
      rw [Int.add_mul, Int.one_mul] at this
      omega

/-! THE REFERENCE: one object, four arrays; row r of the limbs has 140 places -/
def mg (L : Nat → Int) (r : Nat) : Int := ev (fun k => L (140 * r + k)) 140
def lr (L : Nat → Int) : Prop := ∀ i, i < 3500 → 0 ≤ L i ∧ L i < 65536
theorem lr.row {L : Nat → Int} (h : lr L) {r : Nat} (hr : r < 25) {n : Nat} (hn : n ≤ 140) : eg (fun k => L (140 * r + k)) n := fun i hi => h (140 * r + i) (by omega)
theorem lr.up {L : Nat → Int} {k : Nat} {x : Int} (h : lr L) (hx : 0 ≤ x ∧ x < 65536) : lr (upI L k x) := fun i hi => by
  by_cases q : i = k
  · subst q; rw [upI_self]; exact hx
  · rw [upI_ne _ _ q]; exact h i hi
theorem mg_nn {L : Nat → Int} (h : lr L) {r : Nat} (hr : r < 25) : 0 ≤ mg L r ∧ mg L r < 65536 ^ 140 := ⟨ev_nn (h.row hr (Nat.le_refl _)), ev_lt (h.row hr (Nat.le_refl _))⟩
theorem mg_same {L L' : Nat → Int} {r : Nat} (h : ∀ i, i < 140 → L' (140 * r + i) = L (140 * r + i)) : mg L' r = mg L r := ev_congr h
theorem mg_up_ne {L : Nat → Int} {r t k : Nat} {x : Int} (h : r ≠ t) (hk : k < 140) : mg (upI L (140 * t + k) x) r = mg L r := mg_same fun i hi => upI_ne _ _ (by omega)
theorem ro_up {L : Nat → Int} {t k : Nat} {x : Int} (hk : k < 140) : (fun i => upI L (140 * t + k) x (140 * t + i)) = upI (fun i => L (140 * t + i)) k x := by
  funext i
  by_cases q : i = k
  · subst q; rw [upI_self, upI_self]
  · rw [upI_ne _ _ q, upI_ne _ _ (by omega)]
theorem mg_zero {L : Nat → Int} (h : lr L) {r : Nat} (hr : r < 25) : mg L r = 0 ↔ ∀ i, i < 140 → L (140 * r + i) = 0 := by
  constructor
  · intro e i hi
    have hz : eg (fun _ => (0 : Int)) 140 := fun _ _ => ⟨Int.le_refl 0, (by decide : (0 : Int) < 65536)⟩
    have e0 : ev (fun _ => (0 : Int)) 140 = 0 := by rw [ev_trim (Nat.zero_le 140) (fun _ _ _ => rfl), ev_0]
    exact ev_inj (h.row hr (Nat.le_refl _)) hz (e.trans e0.symm) i hi
  · intro e
    show ev (fun k => L (140 * r + k)) 140 = 0
    rw [ev_trim (Nat.zero_le 140) (fun i _ hi => e i hi), ev_0]
abbrev mcell (li si su di : Nat) : va_E := .inr (3, [.ref li, .ref si, .ref su, .ref di])
abbrev mw_la (cA : ClassId) (n : Nat) (g : Nat → Int) : va_E := .inl (cA, n, .inr (.inl (fun j => lI (g j))))
def mks (o li si su di k : Nat) : Prop := k = o ∨ k = li ∨ k = si ∨ k = su ∨ k = di
def MS (kA : Nat → ClassId) (f0 f : mw_M) (o li si su di : Nat) (L S G U : Nat → Int) : Prop :=
  f o = some (mcell li si su di) ∧ f li = some (mw_ar (kA 0) 3500 L) ∧ f si = some (mw_ar (kA 0) 25 S) ∧ f di = some (mw_ar (kA 0) 700 G) ∧ f su = some (mw_la (kA 2) 280 U) ∧ ∀ k, ¬ mks o li si su di k → f k = f0 k
section MSS
variable {kA : Nat → ClassId} {f0 f : mw_M} {o li si su di : Nat} {L S G U : Nat → Int}
theorem MS.ne (h : MS kA f0 f o li si su di L S G U) : (o ≠ li ∧ o ≠ si ∧ o ≠ di ∧ o ≠ su) ∧ (li ≠ si ∧ li ≠ di ∧ li ≠ su) ∧ (si ≠ di ∧ si ≠ su) ∧ di ≠ su := by
  obtain ⟨h1, h2, h3, h4, h5, -⟩ := h
  refine ⟨⟨fun q => ?_, fun q => ?_, fun q => ?_, fun q => ?_⟩, ⟨fun q => ?_, fun q => ?_, fun q => ?_⟩, ⟨fun q => ?_, fun q => ?_⟩, fun q => ?_⟩
  · rw [q, h2] at h1; cases h1
  · rw [q, h3] at h1; cases h1
  · rw [q, h4] at h1; cases h1
  · rw [q, h5] at h1; cases h1
  · rw [q, h3] at h2; simp at h2
  · rw [q, h4] at h2; simp at h2
  · rw [q, h5] at h2; simp at h2
  · rw [q, h4] at h3; simp at h3
  · rw [q, h5] at h3; simp at h3
  · rw [q, h5] at h4; simp at h4
theorem MS.setL (h : MS kA f0 f o li si su di L S G U) (L' : Nat → Int) : MS kA f0 (mw_set f li (mw_ar (kA 0) 3500 L')) o li si su di L' S G U := by
  obtain ⟨n1, n2, n3, n4⟩ := h.ne
  obtain ⟨h1, h2, h3, h4, h5, h6⟩ := h
  exact ⟨by rw [mw_set_ne _ _ n1.1]; exact h1, mw_set_self _ _ _, by rw [mw_set_ne _ _ (Ne.symm n2.1)]; exact h3, by rw [mw_set_ne _ _ (Ne.symm n2.2.1)]; exact h4, by rw [mw_set_ne _ _ (Ne.symm n2.2.2)]; exact h5, fun k hk => by rw [mw_set_ne _ _ (fun q => hk (Or.inr (Or.inl q)))]; exact h6 k hk⟩
theorem MS.setS (h : MS kA f0 f o li si su di L S G U) (S' : Nat → Int) : MS kA f0 (mw_set f si (mw_ar (kA 0) 25 S')) o li si su di L S' G U := by
  obtain ⟨n1, n2, n3, n4⟩ := h.ne
  obtain ⟨h1, h2, h3, h4, h5, h6⟩ := h
  exact ⟨by rw [mw_set_ne _ _ n1.2.1]; exact h1, by rw [mw_set_ne _ _ n2.1]; exact h2, mw_set_self _ _ _, by rw [mw_set_ne _ _ (Ne.symm n3.1)]; exact h4, by rw [mw_set_ne _ _ (Ne.symm n3.2)]; exact h5, fun k hk => by rw [mw_set_ne _ _ (fun q => hk (Or.inr (Or.inr (Or.inl q))))]; exact h6 k hk⟩
theorem MS.setG (h : MS kA f0 f o li si su di L S G U) (G' : Nat → Int) : MS kA f0 (mw_set f di (mw_ar (kA 0) 700 G')) o li si su di L S G' U := by
  obtain ⟨n1, n2, n3, n4⟩ := h.ne
  obtain ⟨h1, h2, h3, h4, h5, h6⟩ := h
  exact ⟨by rw [mw_set_ne _ _ n1.2.2.1]; exact h1, by rw [mw_set_ne _ _ n2.2.1]; exact h2, by rw [mw_set_ne _ _ n3.1]; exact h3, mw_set_self _ _ _, by rw [mw_set_ne _ _ (Ne.symm n4)]; exact h5, fun k hk => by rw [mw_set_ne _ _ (fun q => hk (Or.inr (Or.inr (Or.inr (Or.inr q)))))]; exact h6 k hk⟩
theorem MS.setU (h : MS kA f0 f o li si su di L S G U) (U' : Nat → Int) : MS kA f0 (mw_set f su (mw_la (kA 2) 280 U')) o li si su di L S G U' := by
  obtain ⟨n1, n2, n3, n4⟩ := h.ne
  obtain ⟨h1, h2, h3, h4, h5, h6⟩ := h
  exact ⟨by rw [mw_set_ne _ _ n1.2.2.2]; exact h1, by rw [mw_set_ne _ _ n2.2.2]; exact h2, by rw [mw_set_ne _ _ n3.2]; exact h3, by rw [mw_set_ne _ _ n4]; exact h4, mw_set_self _ _ _, fun k hk => by rw [mw_set_ne _ _ (fun q => hk (Or.inr (Or.inr (Or.inr (Or.inl q)))))]; exact h6 k hk⟩
theorem MS.tr {f1 : mw_M} {L1 S1 G1 U1 : Nat → Int} (h : MS kA f0 f1 o li si su di L1 S1 G1 U1) (h2 : MS kA f1 f o li si su di L S G U) : MS kA f0 f o li si su di L S G U := ⟨h2.1, h2.2.1, h2.2.2.1, h2.2.2.2.1, h2.2.2.2.2.1, fun k hk => (h2.2.2.2.2.2 k hk).trans (h.2.2.2.2.2 k hk)⟩
theorem MS.self (h : MS kA f0 f o li si su di L S G U) : MS kA f f o li si su di L S G U := ⟨h.1, h.2.1, h.2.2.1, h.2.2.2.1, h.2.2.2.2.1, fun _ _ => rfl⟩
end MSS
section MROWS
variable {p : Program} {l : Launch} {e : Env} {R : Room} {s : State} {m : MethodId} {args : Array Value} {below : List Frame} {meth : Method} {c : Code} {H : Heap} {locs : List Loc} {cells slots : Nat} {Q : State → Prop}
variable {cc : ByteArray} {nL : Nat} {own : String} {Ts : List Cond} {pc : Nat} {ls : Array Slot} {rest : List Value} {D : va_G} {kA : Nat → ClassId} {A : Nat → Prop} {f f0 : mw_M} {o li si su di : Nat} {L S G U : Nat → Int}
theorem md_L (B : mw_C p s m args meth c cc nL own Ts D vwCl (tyL kA)) (hI : mw_I D vwCl A s H locs f) (hM : MS kA f0 f o li si su di L S G U) {x v : Int} (i : Nat) (hi : x = (i : Int)) (hin : i < 3500) (hdg : decode cc pc = .ok (.iastore, 1)) (kk : ∀ (f1 : mw_M) (H1 : Heap) (locs1 : List Loc), MS kA f0 f1 o li si su di (upI L i v) S G U → mw_I D vwCl A s H1 locs1 f1 → W p l e R s m args below meth c H1 locs1 cells slots Q (F0 m (pc + 1) ls rest)) : W p l e R s m args below meth c H locs cells slots Q (F0 m pc ls (.int (iI v) :: .int (iI x) :: .ref li :: rest)) :=
  mw_iast B hI 0 hM.2.1 rfl i hi hin (by decide) hdg (fun H1 locs1 h1 => kk _ H1 locs1 (hM.setL _) h1)
theorem md_S (B : mw_C p s m args meth c cc nL own Ts D vwCl (tyL kA)) (hI : mw_I D vwCl A s H locs f) (hM : MS kA f0 f o li si su di L S G U) {x v : Int} (i : Nat) (hi : x = (i : Int)) (hin : i < 25) (hdg : decode cc pc = .ok (.iastore, 1)) (kk : ∀ (f1 : mw_M) (H1 : Heap) (locs1 : List Loc), MS kA f0 f1 o li si su di L (upI S i v) G U → mw_I D vwCl A s H1 locs1 f1 → W p l e R s m args below meth c H1 locs1 cells slots Q (F0 m (pc + 1) ls rest)) : W p l e R s m args below meth c H locs cells slots Q (F0 m pc ls (.int (iI v) :: .int (iI x) :: .ref si :: rest)) :=
  mw_iast B hI 0 hM.2.2.1 rfl i hi hin (by decide) hdg (fun H1 locs1 h1 => kk _ H1 locs1 (hM.setS _) h1)
theorem md_G (B : mw_C p s m args meth c cc nL own Ts D vwCl (tyL kA)) (hI : mw_I D vwCl A s H locs f) (hM : MS kA f0 f o li si su di L S G U) {x v : Int} (i : Nat) (hi : x = (i : Int)) (hin : i < 700) (hdg : decode cc pc = .ok (.iastore, 1)) (kk : ∀ (f1 : mw_M) (H1 : Heap) (locs1 : List Loc), MS kA f0 f1 o li si su di L S (upI G i v) U → mw_I D vwCl A s H1 locs1 f1 → W p l e R s m args below meth c H1 locs1 cells slots Q (F0 m (pc + 1) ls rest)) : W p l e R s m args below meth c H locs cells slots Q (F0 m pc ls (.int (iI v) :: .int (iI x) :: .ref di :: rest)) :=
  mw_iast B hI 0 hM.2.2.2.1 rfl i hi hin (by decide) hdg (fun H1 locs1 h1 => kk _ H1 locs1 (hM.setG _) h1)
theorem updL_upI (g : Nat → Int) (k : Nat) (x : Int) : vp_updL (fun j => lI (g j)) k (lI x) = fun j => lI (upI g k x j) := by
  funext j
  by_cases h : j = k
  · simp [vp_updL, upI, h]
  · simp [vp_updL, upI, h]
theorem md_Uld (B : mw_C p s m args meth c cc nL own Ts D vwCl (tyL kA)) (hI : mw_I D vwCl A s H locs f) (hM : MS kA f0 f o li si su di L S G U) {x : Int} (i : Nat) (hi : x = (i : Int)) (hin : i < 280) (hdg : decode cc pc = .ok (.laload, 1)) (kk : W p l e R s m args below meth c H locs cells slots Q (F0 m (pc + 1) ls (.long (lI (U i)) :: rest))) : W p l e R s m args below meth c H locs cells slots Q (F0 m pc ls (.int (iI x) :: .ref su :: rest)) := by
  subst hi
  obtain ⟨ws, hP, hD, hS, hR⟩ := hI
  obtain ⟨q0, he⟩ := (hR su _).mp hM.2.2.2.2.1
  refine va_lald B.1 B.2.1 B.2.2.2.2.2.2 hP q0 2 he rfl (iI_in hin (by decide)) hdg ?_
  rw [iI_clamp (by omega)]
  exact kk
theorem md_U (B : mw_C p s m args meth c cc nL own Ts D vwCl (tyL kA)) (hI : mw_I D vwCl A s H locs f) (hM : MS kA f0 f o li si su di L S G U) {x v : Int} (i : Nat) (hi : x = (i : Int)) (hin : i < 280) (hdg : decode cc pc = .ok (.lastore, 1)) (kk : ∀ (f1 : mw_M) (H1 : Heap) (locs1 : List Loc), MS kA f0 f1 o li si su di L S G (upI U i v) → mw_I D vwCl A s H1 locs1 f1 → W p l e R s m args below meth c H1 locs1 cells slots Q (F0 m (pc + 1) ls rest)) : W p l e R s m args below meth c H locs cells slots Q (F0 m pc ls (.long (lI v) :: .int (iI x) :: .ref su :: rest)) := by
  subst hi
  obtain ⟨ws, hP, hD, hS, hR⟩ := id hI
  obtain ⟨q0, he⟩ := (hR su _).mp hM.2.2.2.2.1
  refine va_last B.1 B.2.1 B.2.2.2.2.2.2 hP hD hS q0 2 he rfl (iI_in hin (by decide)) hdg (fun H1 locs1 hP1 hD1 hS1 => ?_)
  rw [iI_clamp (by omega), updL_upI] at hP1 hD1
  exact kk _ H1 locs1 (hM.setU _) ⟨_, hP1, hD1, hS1, hR.set _ hD he⟩
end MROWS
/-! bits of ints and longs -/
theorem iI_mask (x : Int) : iI x &&& iI 65535 = iI (x % 65536) := by
  have h := pk_and (iI x) (m := iI 65535) 16 (by decide)
  rw [h, nI_iI]
  congr 1
  have e1 : ((iI x).toBitVec.toNat : Int) = x % 4294967296 := by
    show ((BitVec.ofInt 32 x).toNat : Int) = _
    rw [BitVec.toNat_ofInt]
    have : 0 ≤ x % ((2 ^ 32 : Nat) : Int) := Int.emod_nonneg _ (by decide)
    omega
  omega
theorem s_l_ : ∀ n, n < 32 → ((nI n &&& 31).toBitVec.smod 32).toNat = n := by decide
theorem iI_shr {x : Int} (k : Nat) (hk : k < 32) (h : -2147483648 ≤ x ∧ x ≤ 2147483647) : iI x >>> (iI (k : Int) &&& 31) = iI (x / 2 ^ k) := by
  have hs : ((iI (k : Int) &&& 31).toBitVec.smod 32).toNat = k := by
    rw [← nI_iI]
    exact s_l_ k hk
  have e := pk_shr (iI x) (iI (k : Int) &&& 31) k hs
  rw [iI_toInt h, Int.shiftRight_eq_div_pow] at e
  have p0 : (0 : Int) < 2 ^ k := Int.pow_pos (by decide)
  have b1 : -2147483648 ≤ x / 2 ^ k ∧ x / 2 ^ k ≤ 2147483647 := by
    constructor
    · rw [Int.le_ediv_iff_mul_le p0]
      have : (-2147483648 : Int) * 2 ^ k ≤ (-2147483648) * 1 := Int.mul_le_mul_of_nonpos_left (by decide) (by omega)
      omega
    · rcases Int.le_total 0 x with q | q
      · have := Int.ediv_le_self (2 ^ k) q; omega
      · have : x / 2 ^ k ≤ 0 := by
          have := Int.ediv_le_ediv p0 q
          rw [Int.zero_ediv] at this
          exact this
        omega
  rw [← Int32.toInt_inj, e, iI_toInt b1]
  rfl
