/-! the desk: what queues, holds, outputs and tags have in common on both sides (X's rows of holds stand apart: bk_RH) -/
def bk_G1 (A : Nat → List bk_E) (th pl md cr : Nat → Int32) (r : Nat) : Prop :=
  (th r = 0 ∧ A (3 + r) = []) ∨ (th r = 1 ∧ ∃ t m c : Nat, pl r = nI t ∧ t < 6 ∧ md r = nI m ∧ m < 3 ∧ cr r = nI c ∧ 1 ≤ c ∧ c ≤ 5 ∧ (m = 0 → A (3 + r) = []) ∧ (A (3 + r)).length ≤ c)
def bk_G2 (B : Nat) (g : Nat → Nat) (st ol gv ta : Nat → Int32) (s : Nat) : Prop :=
  gv s = nI (g s) ∧ ta s = nI (g s % 256) ∧ g s ≤ B ∧ (∃ a, a ≤ 240 ∧ ol s = nI a) ∧ (∃ a, a ≤ 2 ∧ st s = nI a)
def bk_C (B : Nat) (A : Nat → List bk_E) (g : Nat → Nat) (st ol th pl md cr lr gv ib il it qi qc ta wh od tg tr so bd : Nat → Int32) (fr en : Int32) : Prop :=
  bk_Con A il it ib wh od tg tr so bd pl g fr.toInt en.toInt ∧ bk_RQ A qi qc ∧ (∀ r, r < 16 → bk_G1 A th pl md cr r) ∧
  (∀ s, s < 4 → bk_G2 B g st ol gv ta s) ∧ (∀ t, t < 6 → lr t = -1 ∨ ∃ r, r < 16 ∧ lr t = nI r) ∧
  (-(B : Int) ≤ fr.toInt ∧ fr.toInt ≤ 0 ∧ 0 ≤ en.toInt ∧ en.toInt ≤ B)
theorem dk_inc {x : Int32} {B : Nat} (h : x.toInt ≤ B) (h0 : 0 ≤ x.toInt) (hB : B ≤ 100000000) : (x + 1).toInt = x.toInt + 1 := by
  rw [Int32.toInt_add, show (1 : Int32).toInt = 1 from by decide]
  exact Int.bmod_eq_of_le (by omega) (by omega)
theorem dk_dec {x : Int32} {B : Nat} (h : -(B : Int) ≤ x.toInt) (h0 : x.toInt ≤ 0) (hB : B ≤ 100000000) : (x - 1).toInt = x.toInt - 1 := by
  rw [Int32.toInt_sub, show (1 : Int32).toInt = 1 from by decide]
  exact Int.bmod_eq_of_le (by omega) (by omega)
def bk_up (g : Nat → Nat) (s : Nat) : Nat → Nat := fun z => if z = s then g s + 1 else g z
theorem bk_up_s {g : Nat → Nat} {s : Nat} : bk_up g s s = g s + 1 := if_pos rfl
theorem bk_up_n {g : Nat → Nat} {s z : Nat} (h : z ≠ s) : bk_up g s z = g z := if_neg h
theorem bk_up_le (g : Nat → Nat) (s z : Nat) : g z ≤ bk_up g s z := by
  by_cases h : z = s
  · subst h; rw [bk_up_s]; omega
  · rw [bk_up_n h]; omega
section DESK
variable {B : Nat} {A : Nat → List bk_E} {g : Nat → Nat} {st ol th pl md cr lr gv hc hg hi ib il it qi qc ta wh od tg tr so bd : Nat → Int32} {fr en : Int32}
theorem dk_len (h : bk_C B A g st ol th pl md cr lr gv ib il it qi qc ta wh od tg tr so bd fr en) : bk_Len A := h.1.2.2.2.2.2.1
theorem dk_mono (h : bk_C B A g st ol th pl md cr lr gv ib il it qi qc ta wh od tg tr so bd fr en) {B' : Nat} (hb : B ≤ B') : bk_C B' A g st ol th pl md cr lr gv ib il it qi qc ta wh od tg tr so bd fr en := by
  obtain ⟨h1, h2, h3, h4, h5, h6⟩ := h
  refine ⟨h1, h2, h3, fun s hs => ?_, h5, by omega⟩
  obtain ⟨a, b, c, d⟩ := h4 s hs
  exact ⟨a, b, by omega, d⟩
/-- the sessions' part when s is given something: n bytes more behind five -/
theorem dk_G2 (h : ∀ s, s < 4 → bk_G2 B g st ol gv ta s) {s a : Nat} (hs : s < 4) (ha : a ≤ 240) : ∀ z, z < 4 → bk_G2 (B + 1) (bk_up g s) st (upd ol s (nI a)) (upd gv s (nI (g s + 1))) (upd ta s (nI ((g s % 256 + 1) % 256))) z := by
  intro z hz
  obtain ⟨e1, e2, e3, e4, e5⟩ := h z hz
  by_cases e : z = s
  · subst e
    refine ⟨by rw [pk_us, bk_up_s], by rw [pk_us, bk_up_s]; exact congrArg nI (by omega), by rw [bk_up_s]; omega, ⟨a, ha, pk_us⟩, e5⟩
  · refine ⟨by rw [pk_un e, bk_up_n e]; exact e1, by rw [pk_un e, bk_up_n e]; exact e2, by rw [bk_up_n e]; omega, by rw [pk_un e]; exact e4, e5⟩
theorem dk_lr (h : ∀ t, t < 6 → lr t = -1 ∨ ∃ r, r < 16 ∧ lr t = nI r) {t r : Nat} (hr : r < 16) : ∀ z, z < 6 → upd lr t (nI r) z = -1 ∨ ∃ r', r' < 16 ∧ upd lr t (nI r) z = nI r' := by
  intro z hz
  by_cases e : z = t
  · subst e; exact Or.inr ⟨r, hr, pk_us⟩
  · rw [pk_un e]; exact h z hz
theorem dk_G1q (h : ∀ r, r < 16 → bk_G1 A th pl md cr r) {t : Nat} (ht : t < 3) (l : List bk_E) : ∀ r, r < 16 → bk_G1 (bk_set A t l) th pl md cr r := by
  intro r hr
  have k := h r hr
  unfold bk_G1 at k ⊢
  rw [bk_set_n (show 3 + r ≠ t by omega)]
  exact k
/-- an entry of ring r goes -/
theorem dk_G1r (h : ∀ r, r < 16 → bk_G1 A th pl md cr r) {r : Nat} {p : bk_E} {l1 l2 : List bk_E} (hA : A (3 + r) = l1 ++ p :: l2) : ∀ z, z < 16 → bk_G1 (bk_set A (3 + r) (l1 ++ l2)) th pl md cr z := by
  intro z hz
  have k := h z hz
  unfold bk_G1 at k ⊢
  by_cases e : z = r
  · subst e
    rw [bk_set_s]
    have ne : A (3 + z) ≠ [] := by rw [hA]; simp
    rcases k with ⟨_, k⟩ | ⟨k0, t, m, c, k1, k2, k3, k4, k5, k6, k7, k8, k9⟩
    · exact absurd k ne
    · refine Or.inr ⟨k0, t, m, c, k1, k2, k3, k4, k5, k6, k7, fun z => absurd (k8 z) ne, ?_⟩
      rw [hA] at k9
      simp only [List.length_append, List.length_cons] at k9 ⊢
      omega
  · rw [bk_set_n (show 3 + z ≠ 3 + r by omega)]
    exact k
/-- an entry comes to ring r -/
theorem dk_G1p (h : ∀ r, r < 16 → bk_G1 A th pl md cr r) {r m c : Nat} (p : bk_E) (hr : r < 16) (ht : th r = 1) (hm : md r = nI m) (hm3 : m < 3) (hm0 : m ≠ 0) (hc : cr r = nI c) (hc5 : c ≤ 5) (hlt : (A (3 + r)).length < c) : ∀ z, z < 16 → bk_G1 (bk_set A (3 + r) (A (3 + r) ++ [p])) th pl md cr z := by
  intro z hz
  have k := h z hz
  unfold bk_G1 at k ⊢
  by_cases e : z = r
  · subst e
    rw [bk_set_s]
    rcases k with ⟨k, _⟩ | ⟨k0, t, m', c', k1, k2, k3, k4, k5, k6, k7, k8, k9⟩
    · rw [ht] at k; exact absurd k (by decide)
    · refine Or.inr ⟨k0, t, m, c, k1, k2, hm, hm3, hc, by omega, hc5, fun z => absurd z hm0, ?_⟩
      rw [List.length_append, List.length_singleton]
      omega
  · rw [bk_set_n (show 3 + z ≠ 3 + r by omega)]
    exact k
theorem dk_fre {p : bk_E} {q n : Nat} (hq : q < 104) (e : p.1 = nI q) (hn : il q = nI n) : upd (bk_fre il p.1) q (nI n) = il ∧ bk_fre il p.1 = upd il q 0 ∧ bk_fre il p.1 q = 0 := by
  have z : bk_fre il p.1 = upd il q 0 := by
    unfold bk_fre
    rw [if_neg (by rw [e]; exact bk_nm1 (by omega)), e, nI_clamp (by omega)]
  rw [z]
  refine ⟨?_, rfl, pk_us⟩
  rw [bk_uu]
  exact bk_uid il q (nI n) hn
/-- the head of queue t goes to ring r, which holds it -/
theorem dk_giveQ1 (h : bk_C B A g st ol th pl md cr lr gv ib il it qi qc ta wh od tg tr so bd fr en) (rh : bk_RH A hi hg hc) (hB : B ≤ 100000000) {t r m c a : Nat} {p : bk_E} {l : List bk_E} (ht : t < 3) (hA : A t = p :: l)
    (hr : r < 16) (h1 : th r = 1) (hp : pl r = nI t) (hm : md r = nI m) (hm3 : m < 3) (hm0 : m ≠ 0) (hc' : cr r = nI c) (hc5 : c ≤ 5) (hlt : (A (3 + r)).length < c) (ha : a ≤ 240) :
    bk_C (B + 1) (bk_set (bk_set A t l) (3 + r) (A (3 + r) ++ [(p.1, p.2.1, g (r / 4))])) (bk_up g (r / 4)) st (upd ol (r / 4) (nI a)) th pl md cr (upd lr t (nI r)) (upd gv (r / 4) (nI (g (r / 4) + 1))) ib il it
      (bk_shl qi (t * 8) l.length) (upd qc t (nI l.length)) (upd ta (r / 4) (nI ((g (r / 4) % 256 + 1) % 256))) (upd wh p.2.1 (nI (3 + r))) (upd od p.2.1 (en + 1)) (upd tg p.2.1 (ta (r / 4))) tr so bd fr (en + 1) ∧
    bk_RH (bk_set (bk_set A t l) (3 + r) (A (3 + r) ++ [(p.1, p.2.1, g (r / 4))])) (upd hi (r * 5 + (A (3 + r)).length) p.1) (upd hg (r * 5 + (A (3 + r)).length) (nI (g (r / 4)))) (upd hc r (nI ((A (3 + r)).length + 1))) := by
  have hl := dk_len h
  obtain ⟨h1', h2, h3, h4, h5, h6⟩ := h
  have inc := dk_inc (x := en) h6.2.2.2 h6.2.2.1 hB
  have hpm : p ∈ A t := by rw [hA]; exact List.mem_cons_self
  have c0 := h1'.1 t p (by omega) hpm
  have k1 := bk_rm h1' (l1 := []) (by omega) hA
  rw [List.nil_append] at k1
  have k2 := bk_frame (it' := it) (ib' := ib) (od' := upd od p.2.1 (en + 1)) (tg' := upd tg p.2.1 (ta (r / 4))) (tr' := tr) (so' := so) (bd' := bd) (g' := g) (fr' := fr.toInt) (en' := (en + 1).toInt) k1
    (fun _ _ _ => ⟨rfl, fun _ _ => rfl⟩) (fun y _ hy => by
      have ne : y ≠ p.2.1 := fun e => hy (by rw [e]; exact pk_us)
      exact ⟨pk_un ne, pk_un ne, rfl, rfl, fun _ _ => rfl⟩) (fun _ => Nat.le_refl _) (Int.le_refl _) (by omega)
  have qu : bk_Qu pl (3 + r) := by
    right
    rw [show 3 + r - 3 = r by omega, hp]
    exact nI_lt (b := 3) (by omega) (by omega)
  have qt : bk_Qu pl t := Or.inl ht
  rcases c0.2.2.1 with ⟨_, q, n, tt, o1, o2, o3, o4, o5, o6, o7, o8, o9, o10⟩ | ⟨x, _⟩
  rotate_left
  · exact absurd qt x
  obtain ⟨f1, f2, f3⟩ := dk_fre (il := il) o1 o2 o6
  have e3 : bk_set A t l (3 + r) = A (3 + r) := bk_set_n (by omega)
  have old : ∀ M q', M < 19 → q' ∈ bk_set A t l M → ((upd od p.2.1 (en + 1)) q'.2.1).toInt ≤ en.toInt := by
    intro M q' hM hq'
    have w := (k1.1 M q' hM hq')
    have ne : q'.2.1 ≠ p.2.1 := by
      intro e
      have w2 := w.2.1
      rw [e, pk_us] at w2
      exact bk_nm1 (by omega) w2.symm
    rw [pk_un ne]
    exact w.2.2.2.2
  have new : ((upd od p.2.1 (en + 1)) p.2.1).toInt = en.toInt + 1 := by rw [pk_us, inc]
  have k3 := bk_ins (L := 3 + r) (p := (p.1, p.2.1, g (r / 4))) (l' := A (3 + r) ++ [(p.1, p.2.1, g (r / 4))]) (il' := il) (g' := bk_up g (r / 4)) k2 (by omega)
    (fun q' => by rw [e3, List.mem_append, List.mem_singleton, or_comm])
    (by
      rw [List.pairwise_append]
      refine ⟨by have := k2.2.1 (3 + r) (by omega); rw [e3] at this; exact this, List.pairwise_singleton _ _, ?_⟩
      intro a' ha' b' hb'
      rw [List.mem_singleton] at hb'
      subst hb'
      have := old (3 + r) a' (by omega) (by rw [e3]; exact ha')
      show ((upd od p.2.1 (en + 1)) a'.2.1).toInt < ((upd od p.2.1 (en + 1)) p.2.1).toInt
      omega)
    ⟨fun x => by omega, fun _ => by rw [List.length_append, List.length_singleton]; omega⟩ c0.1 pk_us
    (Or.inl ⟨qu, q, n, tt, o1, o2, f3, f1.symm, o3, o4, o5, o7, o8, o9, o10⟩)
    (by
      show fr.toInt ≤ ((upd od p.2.1 (en + 1)) p.2.1).toInt ∧ ((upd od p.2.1 (en + 1)) p.2.1).toInt ≤ (en + 1).toInt
      omega) (bk_up_le g (r / 4))
    (fun r' e => by
      have e : r' = r := by omega
      subst e
      refine ⟨by rw [bk_up_s]; exact Nat.lt_succ_self _, ?_⟩
      show upd tg p.2.1 (ta (r' / 4)) p.2.1 = _
      rw [pk_us]
      exact (h4 (r' / 4) (by omega)).2.1)
    (fun r' r'' q' e hr'' e4 hq' => by
      have e : r' = r := by omega
      subst e
      have w := (k2.2.2.2.2.2.2.1 r'' q' hr'' hq').1
      have o := old (3 + r'') q' (by omega) hq'
      rw [← e4] at w
      refine ⟨⟨fun _ => ?_, fun _ => w⟩, ⟨fun x => ?_, fun x => ?_⟩, Nat.ne_of_lt w⟩
      · show ((upd od p.2.1 (en + 1)) q'.2.1).toInt < ((upd od p.2.1 (en + 1)) p.2.1).toInt
        omega
      · have x : g (r' / 4) < q'.2.2 := x
        omega
      · have x : ((upd od p.2.1 (en + 1)) p.2.1).toInt < ((upd od p.2.1 (en + 1)) q'.2.1).toInt := x
        omega)
  have e5 : upd (upd wh p.2.1 (-1)) (p.1, p.2.1, g (r / 4)).2.1 (nI (3 + r)) = upd wh p.2.1 (nI (3 + r)) := bk_uu _ _ _ _
  rw [e5] at k3
  refine ⟨⟨k3, ?_, ?_, dk_G2 h4 (by omega) ha, dk_lr h5 hr, by omega⟩, ?_⟩
  · exact bk_RQ_ring (bk_RQ_pop h2 hl ht hA) (by omega) _
  · have w := dk_G1p (dk_G1q h3 ht l) (r := r) (m := m) (c := c) (p.1, p.2.1, g (r / 4)) hr h1 hm hm3 hm0 hc' hc5 (by rw [e3]; exact hlt)
    rw [e3] at w
    exact w
  · have w := bk_RH_push (bk_RH_queue rh ht l) (r := r) (p := (p.1, p.2.1, g (r / 4))) ⟨k1.2.2.2.2.2.1.1, k1.2.2.2.2.2.1.2⟩ hr (by rw [e3]; omega)
    rw [e3] at w
    exact w
/-- the head of queue t goes to ring r, which does not hold it -/
theorem dk_giveQ0 (h : bk_C B A g st ol th pl md cr lr gv ib il it qi qc ta wh od tg tr so bd fr en) (rh : bk_RH A hi hg hc) (hB : B ≤ 100000000) {t r a : Nat} {p : bk_E} {l : List bk_E} (ht : t < 3) (hA : A t = p :: l)
    (hr : r < 16) (ha : a ≤ 240) :
    bk_C (B + 1) (bk_set A t l) (bk_up g (r / 4)) st (upd ol (r / 4) (nI a)) th pl md cr (upd lr t (nI r)) (upd gv (r / 4) (nI (g (r / 4) + 1))) ib (bk_fre il p.1) it
      (bk_shl qi (t * 8) l.length) (upd qc t (nI l.length)) (upd ta (r / 4) (nI ((g (r / 4) % 256 + 1) % 256))) (upd wh p.2.1 (-1)) (upd od p.2.1 (en + 1)) (upd tg p.2.1 (ta (r / 4))) tr so bd fr (en + 1) ∧
    bk_RH (bk_set A t l) hi hg hc := by
  have hl := dk_len h
  obtain ⟨h1', h2, h3, h4, h5, h6⟩ := h
  have inc := dk_inc (x := en) h6.2.2.2 h6.2.2.1 hB
  have k1 := bk_rm h1' (l1 := []) (by omega) hA
  rw [List.nil_append] at k1
  have k2 := bk_frame (it' := it) (ib' := ib) (od' := upd od p.2.1 (en + 1)) (tg' := upd tg p.2.1 (ta (r / 4))) (tr' := tr) (so' := so) (bd' := bd) (g' := bk_up g (r / 4)) (fr' := fr.toInt) (en' := (en + 1).toInt) k1
    (fun _ _ _ => ⟨rfl, fun _ _ => rfl⟩) (fun y _ hy => by
      have ne : y ≠ p.2.1 := fun e => hy (by rw [e]; exact pk_us)
      exact ⟨pk_un ne, pk_un ne, rfl, rfl, fun _ _ => rfl⟩) (bk_up_le g (r / 4)) (Int.le_refl _) (by omega)
  exact ⟨⟨k2, bk_RQ_pop h2 hl ht hA, dk_G1q h3 ht l, dk_G2 h4 (by omega) ha, dk_lr h5 hr, by omega⟩, bk_RH_queue rh ht l⟩
/-- an item of a stream goes to ring r, which holds it -/
theorem dk_giveS1 (h : bk_C B A g st ol th pl md cr lr gv ib il it qi qc ta wh od tg tr so bd fr en) (rh : bk_RH A hi hg hc) (hB : B ≤ 100000000) {t r m c a y : Nat} {tr' so' bd' : Nat → Int32} (ht : 3 ≤ t) (ht6 : t < 6)
    (hr : r < 16) (h1 : th r = 1) (hp : pl r = nI t) (hm : md r = nI m) (hm3 : m < 3) (hm0 : m ≠ 0) (hc' : cr r = nI c) (hc5 : c ≤ 5) (hlt : (A (3 + r)).length < c) (ha : a ≤ 240)
    (hy : y < 112) (hw : wh y = -1) (hY : ∀ z, z < 112 → z ≠ y → tr' z = tr z ∧ so' z = so z ∧ ∀ j, j < 16 → bd' (16 * z + j) = bd (16 * z + j)) :
    bk_C (B + 1) (bk_set A (3 + r) (A (3 + r) ++ [(-1, y, g (r / 4))])) (bk_up g (r / 4)) st (upd ol (r / 4) (nI a)) th pl md cr (upd lr t (nI r)) (upd gv (r / 4) (nI (g (r / 4) + 1))) ib il it
      qi qc (upd ta (r / 4) (nI ((g (r / 4) % 256 + 1) % 256))) (upd wh y (nI (3 + r))) (upd od y (en + 1)) (upd tg y (ta (r / 4))) tr' so' bd' fr (en + 1) ∧
    bk_RH (bk_set A (3 + r) (A (3 + r) ++ [(-1, y, g (r / 4))])) (upd hi (r * 5 + (A (3 + r)).length) (-1)) (upd hg (r * 5 + (A (3 + r)).length) (nI (g (r / 4)))) (upd hc r (nI ((A (3 + r)).length + 1))) := by
  have hl := dk_len h
  obtain ⟨h1', h2, h3, h4, h5, h6⟩ := h
  have inc := dk_inc (x := en) h6.2.2.2 h6.2.2.1 hB
  have k2 := bk_frame (it' := it) (ib' := ib) (od' := upd od y (en + 1)) (tg' := upd tg y (ta (r / 4))) (tr' := tr') (so' := so') (bd' := bd') (g' := g) (fr' := fr.toInt) (en' := (en + 1).toInt) h1'
    (fun _ _ _ => ⟨rfl, fun _ _ => rfl⟩) (fun z hz hzw => by
      have ne : z ≠ y := fun e => hzw (by rw [e]; exact hw)
      obtain ⟨a1, a2, a3⟩ := hY z hz ne
      exact ⟨pk_un ne, pk_un ne, a1, a2, a3⟩) (fun _ => Nat.le_refl _) (Int.le_refl _) (by omega)
  have qu : ¬ bk_Qu pl (3 + r) := by
    rintro (x | x)
    · omega
    · rw [show 3 + r - 3 = r by omega, hp] at x
      exact absurd x (nI_nlt (b := 3) ht (by omega))
  have old : ∀ M q', M < 19 → q' ∈ A M → ((upd od y (en + 1)) q'.2.1).toInt ≤ en.toInt := by
    intro M q' hM hq'
    have w := (h1'.1 M q' hM hq')
    have ne : q'.2.1 ≠ y := by
      intro e
      have w2 := w.2.1
      rw [e, hw] at w2
      exact bk_nm1 (by omega) w2.symm
    rw [pk_un ne]
    exact w.2.2.2.2
  have new : ((upd od y (en + 1)) y).toInt = en.toInt + 1 := by rw [pk_us, inc]
  have k3 := bk_ins (L := 3 + r) (p := (-1, y, g (r / 4))) (l' := A (3 + r) ++ [(-1, y, g (r / 4))]) (il' := il) (g' := bk_up g (r / 4)) k2 (by omega)
    (fun q' => by rw [List.mem_append, List.mem_singleton, or_comm])
    (by
      rw [List.pairwise_append]
      refine ⟨k2.2.1 (3 + r) (by omega), List.pairwise_singleton _ _, ?_⟩
      intro a' ha' b' hb'
      rw [List.mem_singleton] at hb'
      subst hb'
      have := old (3 + r) a' (by omega) ha'
      show ((upd od y (en + 1)) a'.2.1).toInt < ((upd od y (en + 1)) y).toInt
      omega)
    ⟨fun x => by omega, fun _ => by rw [List.length_append, List.length_singleton]; omega⟩ hy hw
    (Or.inr ⟨qu, rfl, rfl⟩)
    (by
      show fr.toInt ≤ ((upd od y (en + 1)) y).toInt ∧ ((upd od y (en + 1)) y).toInt ≤ (en + 1).toInt
      omega) (bk_up_le g (r / 4))
    (fun r' e => by
      have e : r' = r := by omega
      subst e
      refine ⟨by rw [bk_up_s]; exact Nat.lt_succ_self _, ?_⟩
      show upd tg y (ta (r' / 4)) y = _
      rw [pk_us]
      exact (h4 (r' / 4) (by omega)).2.1)
    (fun r' r'' q' e hr'' e4 hq' => by
      have e : r' = r := by omega
      subst e
      have w := (k2.2.2.2.2.2.2.1 r'' q' hr'' hq').1
      have o := old (3 + r'') q' (by omega) hq'
      rw [← e4] at w
      refine ⟨⟨fun _ => ?_, fun _ => w⟩, ⟨fun x => ?_, fun x => ?_⟩, Nat.ne_of_lt w⟩
      · show ((upd od y (en + 1)) q'.2.1).toInt < ((upd od y (en + 1)) y).toInt
        omega
      · have x : g (r' / 4) < q'.2.2 := x
        omega
      · have x : ((upd od y (en + 1)) y).toInt < ((upd od y (en + 1)) q'.2.1).toInt := x
        omega)
  refine ⟨⟨k3, bk_RQ_ring h2 (by omega) _, dk_G1p h3 _ hr h1 hm hm3 hm0 hc' hc5 hlt, dk_G2 h4 (by omega) ha, dk_lr h5 hr, by omega⟩, ?_⟩
  exact bk_RH_push rh (r := r) (p := (-1, y, g (r / 4))) hl hr (by omega)
/-- an item of a stream goes to ring r, which does not hold it -/
theorem dk_giveS0 (h : bk_C B A g st ol th pl md cr lr gv ib il it qi qc ta wh od tg tr so bd fr en) (hB : B ≤ 100000000) {t r a y : Nat} {tr' so' bd' : Nat → Int32}
    (hr : r < 16) (ha : a ≤ 240)
    (hw : wh y = -1) (hY : ∀ z, z < 112 → z ≠ y → tr' z = tr z ∧ so' z = so z ∧ ∀ j, j < 16 → bd' (16 * z + j) = bd (16 * z + j)) :
    bk_C (B + 1) A (bk_up g (r / 4)) st (upd ol (r / 4) (nI a)) th pl md cr (upd lr t (nI r)) (upd gv (r / 4) (nI (g (r / 4) + 1))) ib il it
      qi qc (upd ta (r / 4) (nI ((g (r / 4) % 256 + 1) % 256))) (upd wh y (-1)) (upd od y (en + 1)) (upd tg y (ta (r / 4))) tr' so' bd' fr (en + 1) := by
  obtain ⟨h1', h2, h3, h4, h5, h6⟩ := h
  have inc := dk_inc (x := en) h6.2.2.2 h6.2.2.1 hB
  have k2 := bk_frame (it' := it) (ib' := ib) (od' := upd od y (en + 1)) (tg' := upd tg y (ta (r / 4))) (tr' := tr') (so' := so') (bd' := bd') (g' := bk_up g (r / 4)) (fr' := fr.toInt) (en' := (en + 1).toInt) h1'
    (fun _ _ _ => ⟨rfl, fun _ _ => rfl⟩) (fun z hz hzw => by
      have ne : z ≠ y := fun e => hzw (by rw [e]; exact hw)
      obtain ⟨a1, a2, a3⟩ := hY z hz ne
      exact ⟨pk_un ne, pk_un ne, a1, a2, a3⟩) (bk_up_le g (r / 4)) (Int.le_refl _) (by omega)
  rw [bk_uid wh y (-1) hw]
  exact ⟨k2, h2, h3, dk_G2 h4 (by omega) ha, dk_lr h5 hr, by omega⟩
/-- an item is sent to queue t -/
theorem dk_send (h : bk_C B A g st ol th pl md cr lr gv ib il it qi qc ta wh od tg tr so bd fr en) (rh : bk_RH A hi hg hc) (hB : B ≤ 100000000) {t n y q : Nat} {it' ib' tr' so' bd' : Nat → Int32} (ht : t < 3) (h8 : (A t).length < 8)
    (hn1 : 1 ≤ n) (hn16 : n ≤ 16) (hq : q < 104) (hil : il q = 0) (hy : y < 112) (hw : wh y = -1)
    (hX : ∀ z, z < 104 → z ≠ q → it' z = it z ∧ ∀ j, j < 16 → ib' (z * 16 + j) = ib (z * 16 + j))
    (hY : ∀ z, z < 112 → z ≠ y → tr' z = tr z ∧ so' z = so z ∧ ∀ j, j < 16 → bd' (16 * z + j) = bd (16 * z + j))
    (hit : it' q = 0) (htr : tr' y = 0) (hso : so' y = nI n) (hb : ∀ j, j < n → ib' (q * 16 + j) = bd' (16 * y + j)) :
    bk_C (B + 1) (bk_set A t (A t ++ [(nI q, y, 0)])) g st ol th pl md cr lr gv ib' (upd il q (nI n)) it'
      (upd qi (t * 8 + (A t).length) (nI q)) (upd qc t (nI ((A t).length + 1))) ta (upd wh y (nI t)) (upd od y (en + 1)) tg tr' so' bd' fr (en + 1) ∧
    bk_RH (bk_set A t (A t ++ [(nI q, y, 0)])) hi hg hc := by
  have hl := dk_len h
  obtain ⟨h1', h2, h3, h4, h5, h6⟩ := h
  have inc := dk_inc (x := en) h6.2.2.2 h6.2.2.1 hB
  have k2 := bk_frame (it' := it') (ib' := ib') (od' := upd od y (en + 1)) (tg' := tg) (tr' := tr') (so' := so') (bd' := bd') (g' := g) (fr' := fr.toInt) (en' := (en + 1).toInt) h1'
    (fun z hz hzi => by
      have ne : z ≠ q := fun e => hzi (by rw [e]; exact hil)
      exact hX z hz ne) (fun z hz hzw => by
      have ne : z ≠ y := fun e => hzw (by rw [e]; exact hw)
      obtain ⟨a1, a2, a3⟩ := hY z hz ne
      exact ⟨pk_un ne, rfl, a1, a2, a3⟩) (fun _ => Nat.le_refl _) (Int.le_refl _) (by omega)
  have old : ∀ M q', M < 19 → q' ∈ A M → ((upd od y (en + 1)) q'.2.1).toInt ≤ en.toInt := by
    intro M q' hM hq'
    have w := (h1'.1 M q' hM hq')
    have ne : q'.2.1 ≠ y := by
      intro e
      have w2 := w.2.1
      rw [e, hw] at w2
      exact bk_nm1 (by omega) w2.symm
    rw [pk_un ne]
    exact w.2.2.2.2
  have new : ((upd od y (en + 1)) y).toInt = en.toInt + 1 := by rw [pk_us, inc]
  have k3 := bk_ins (L := t) (p := (nI q, y, 0)) (l' := A t ++ [(nI q, y, 0)]) (il' := upd il q (nI n)) (g' := g) k2 (by omega)
    (fun q' => by rw [List.mem_append, List.mem_singleton, or_comm])
    (by
      rw [List.pairwise_append]
      refine ⟨k2.2.1 t (by omega), List.pairwise_singleton _ _, ?_⟩
      intro a' ha' b' hb'
      rw [List.mem_singleton] at hb'
      subst hb'
      have := old t a' (by omega) ha'
      show ((upd od y (en + 1)) a'.2.1).toInt < ((upd od y (en + 1)) y).toInt
      omega)
    ⟨fun _ => by rw [List.length_append, List.length_singleton]; omega, fun x => by omega⟩ hy hw
    (Or.inl ⟨Or.inl ht, q, n, 0, hq, rfl, hil, rfl, hn1, hn16, by omega, hso, hit, htr, hb⟩)
    (by
      show fr.toInt ≤ ((upd od y (en + 1)) y).toInt ∧ ((upd od y (en + 1)) y).toInt ≤ (en + 1).toInt
      omega) (fun _ => Nat.le_refl _) (fun r' e => by omega) (fun r' r'' q' e => by omega)
  exact ⟨⟨k3, bk_RQ_back h2 hl ht h8, dk_G1q h3 ht _, fun s hs => by
    obtain ⟨a, b, c, d⟩ := h4 s hs
    exact ⟨a, b, by omega, d⟩, h5, by omega⟩, bk_RH_queue rh ht _⟩
/-- an entry of ring r is held no more, and gone -/
theorem dk_drop (h : bk_C B A g st ol th pl md cr lr gv ib il it qi qc ta wh od tg tr so bd fr en) {r : Nat} {p : bk_E} {l1 l2 : List bk_E} {it' tr' : Nat → Int32} (hr : r < 16) (hA : A (3 + r) = l1 ++ p :: l2)
    (hX : ∀ z, z < 104 → nI z ≠ p.1 → it' z = it z) (hY : ∀ z, z < 112 → z ≠ p.2.1 → tr' z = tr z) :
    bk_C B (bk_set A (3 + r) (l1 ++ l2)) g st ol th pl md cr lr gv ib (bk_fre il p.1) it' qi qc ta (upd wh p.2.1 (-1)) od tg tr' so bd fr en := by
  obtain ⟨h1', h2, h3, h4, h5, h6⟩ := h
  have hp : p ∈ A (3 + r) := by rw [hA]; exact List.mem_append_right l1 List.mem_cons_self
  have k1 := bk_rm h1' (by omega) hA
  have k2 := bk_frame (it' := it') (ib' := ib) (od' := od) (tg' := tg) (tr' := tr') (so' := so) (bd' := bd) (g' := g) (fr' := fr.toInt) (en' := en.toInt) k1
    (fun z hz hzi => by
      refine ⟨hX z hz (fun e => hzi ?_), fun _ _ => rfl⟩
      unfold bk_fre
      rw [if_neg (by rw [← e]; exact bk_nm1 (by omega)), ← e, nI_clamp (by omega)]
      exact pk_us) (fun z hz hzw => by
      have ne : z ≠ p.2.1 := fun e => hzw (by rw [e]; exact pk_us)
      exact ⟨rfl, rfl, hY z hz ne, rfl, fun _ _ => rfl⟩) (fun _ => Nat.le_refl _) (Int.le_refl _) (Int.le_refl _)
  exact ⟨k2, bk_RQ_ring h2 (by omega) _, dk_G1r h3 hA, h4, h5, h6⟩
/-- an entry of ring r comes back to the front of queue t -/
theorem dk_back (h : bk_C B A g st ol th pl md cr lr gv ib il it qi qc ta wh od tg tr so bd fr en) (hB : B ≤ 100000000) {r t k : Nat} {p : bk_E} {l1 l2 : List bk_E} {it' tr' : Nat → Int32} (hr : r < 16) (hA : A (3 + r) = l1 ++ p :: l2) (ht : t < 3) (hp : pl r = nI t) (h8 : (A t).length < 8)
    (hX : ∀ z, z < 104 → nI z ≠ p.1 → it' z = it z) (hY : ∀ z, z < 112 → z ≠ p.2.1 → tr' z = tr z) (hk : k ≤ 2) (hx : ∀ q, p.1 = nI q → q < 104 → it' q = nI k) (hy : tr' p.2.1 = nI k) :
    bk_C (B + 1) (bk_set (bk_set A (3 + r) (l1 ++ l2)) t (p :: A t)) g st ol th pl md cr lr gv ib il it' (bk_shr qi (t * 8) (A t).length p.1) (upd qc t (nI ((A t).length + 1))) ta (upd wh p.2.1 (nI t)) (upd od p.2.1 (fr - 1)) tg tr' so bd (fr - 1) en := by
  have h0 := dk_drop h hr hA hX hY
  have hl := dk_len h0
  obtain ⟨k1, k2, k3, k4, k5, k6⟩ := h0
  obtain ⟨h1', h2, h3, h4, h5, h6⟩ := h
  have hpm : p ∈ A (3 + r) := by rw [hA]; exact List.mem_append_right l1 List.mem_cons_self
  have dec := dk_dec (x := fr) h6.1 h6.2.1 hB
  have c0 := h1'.1 (3 + r) p (by omega) hpm
  have qu : bk_Qu pl (3 + r) := by
    right
    rw [show 3 + r - 3 = r by omega, hp]
    exact nI_lt (b := 3) (by omega) (by omega)
  rcases c0.2.2.1 with ⟨_, q, n, tt, o1, o2, o3, o4, o5, o6, o7, o8, o9, o10⟩ | ⟨x, _⟩
  rotate_left
  · exact absurd qu x
  obtain ⟨f1, f2, f3⟩ := dk_fre (il := il) o1 o2 o6
  have j2 := bk_frame (it' := it') (ib' := ib) (od' := upd od p.2.1 (fr - 1)) (tg' := tg) (tr' := tr') (so' := so) (bd' := bd) (g' := g) (fr' := (fr - 1).toInt) (en' := en.toInt) k1
    (fun z hz hzi => ⟨rfl, fun _ _ => rfl⟩) (fun z hz hzw => by
      have ne : z ≠ p.2.1 := fun e => hzw (by rw [e]; exact pk_us)
      exact ⟨pk_un ne, rfl, rfl, rfl, fun _ _ => rfl⟩) (fun _ => Nat.le_refl _) (by omega) (Int.le_refl _)
  have e3 : bk_set A (3 + r) (l1 ++ l2) t = A t := bk_set_n (by omega)
  have old : ∀ M q', M < 19 → q' ∈ bk_set A (3 + r) (l1 ++ l2) M → fr.toInt ≤ ((upd od p.2.1 (fr - 1)) q'.2.1).toInt := by
    intro M q' hM hq'
    have w := (k1.1 M q' hM hq')
    have ne : q'.2.1 ≠ p.2.1 := by
      intro e
      have w2 := w.2.1
      rw [e, pk_us] at w2
      exact bk_nm1 (by omega) w2.symm
    rw [pk_un ne]
    exact w.2.2.2.1
  have new : ((upd od p.2.1 (fr - 1)) p.2.1).toInt = fr.toInt - 1 := by rw [pk_us, dec]
  have j3 := bk_ins (L := t) (p := p) (l' := p :: A t) (il' := il) (g' := g) j2 (by omega)
    (fun q' => by rw [e3, List.mem_cons])
    (by
      rw [List.pairwise_cons]
      refine ⟨?_, by have := j2.2.1 t (by omega); rw [e3] at this; exact this⟩
      intro b' hb'
      have := old t b' (by omega) (by rw [e3]; exact hb')
      omega)
    ⟨fun _ => by rw [List.length_cons]; omega, fun x => by omega⟩ c0.1 pk_us
    (Or.inl ⟨Or.inl ht, q, n, k, o1, o2, f3, f1.symm, o3, o4, hk, o7, hx q o2 o1, hy, o10⟩)
    (by have := k6; omega) (fun _ => Nat.le_refl _) (fun r' e => by omega) (fun r' r'' q' e => by omega)
  rw [bk_uu] at j3
  refine ⟨j3, ?_, dk_G1q k3 ht _, fun s hs => by
    obtain ⟨a, b, c, d⟩ := h4 s hs
    exact ⟨a, b, by omega, d⟩, h5, by omega⟩
  have w := bk_RQ_front (p := p) k2 hl ht (by rw [e3]; exact h8)
  rw [e3] at w
  exact w
theorem dk_unsub (h : bk_C B A g st ol th pl md cr lr gv ib il it qi qc ta wh od tg tr so bd fr en) {r : Nat} (hA : A (3 + r) = []) : bk_C B A g st ol (upd th r 0) pl md cr lr gv ib il it qi qc ta wh od tg tr so bd fr en := by
  obtain ⟨h1', h2, h3, h4, h5, h6⟩ := h
  refine ⟨h1', h2, fun z hz => ?_, h4, h5, h6⟩
  unfold bk_G1
  by_cases e : z = r
  · subst e; rw [pk_us]; exact Or.inl ⟨rfl, hA⟩
  · rw [pk_un e]; exact h3 z hz
theorem dk_sub (h : bk_C B A g st ol th pl md cr lr gv ib il it qi qc ta wh od tg tr so bd fr en) {r t m c : Nat} (hA : A (3 + r) = []) (ht : t < 6) (hm : m < 3) (hc1 : 1 ≤ c) (hc5 : c ≤ 5) :
    bk_C B A g st ol (upd th r 1) (upd pl r (nI t)) (upd md r (nI m)) (upd cr r (nI c)) lr gv ib il it qi qc ta wh od tg tr so bd fr en := by
  obtain ⟨h1', h2, h3, h4, h5, h6⟩ := h
  refine ⟨bk_pl h1' hA _, h2, fun z hz => ?_, h4, h5, h6⟩
  unfold bk_G1
  by_cases e : z = r
  · subst e
    rw [pk_us, pk_us, pk_us, pk_us]
    refine Or.inr ⟨rfl, t, m, c, rfl, ht, rfl, hm, rfl, hc1, hc5, fun _ => hA, ?_⟩
    rw [hA]
    exact Nat.zero_le _
  · rw [pk_un e, pk_un e, pk_un e, pk_un e]; exact h3 z hz
theorem dk_st (h : bk_C B A g st ol th pl md cr lr gv ib il it qi qc ta wh od tg tr so bd fr en) {s a : Nat} (ha : a ≤ 2) : bk_C B A g (upd st s (nI a)) ol th pl md cr lr gv ib il it qi qc ta wh od tg tr so bd fr en := by
  obtain ⟨h1', h2, h3, h4, h5, h6⟩ := h
  refine ⟨h1', h2, h3, fun z hz => ?_, h5, h6⟩
  obtain ⟨a1, a2, a3, a4, a5⟩ := h4 z hz
  refine ⟨a1, a2, a3, a4, ?_⟩
  by_cases e : z = s
  · subst e; exact ⟨a, ha, pk_us⟩
  · rw [pk_un e]; exact a5
theorem dk_ol (h : bk_C B A g st ol th pl md cr lr gv ib il it qi qc ta wh od tg tr so bd fr en) {s a : Nat} (ha : a ≤ 240) : bk_C B A g st (upd ol s (nI a)) th pl md cr lr gv ib il it qi qc ta wh od tg tr so bd fr en := by
  obtain ⟨h1', h2, h3, h4, h5, h6⟩ := h
  refine ⟨h1', h2, h3, fun z hz => ?_, h5, h6⟩
  obtain ⟨a1, a2, a3, a4, a5⟩ := h4 z hz
  refine ⟨a1, a2, a3, ?_, a5⟩
  by_cases e : z = s
  · subst e; exact ⟨a, ha, pk_us⟩
  · rw [pk_un e]; exact a4
/-- a session without holds begins its tags anew -/
theorem dk_zero (h : bk_C B A g st ol th pl md cr lr gv ib il it qi qc ta wh od tg tr so bd fr en) {s : Nat} (hA : ∀ r, r < 16 → r / 4 = s → A (3 + r) = []) : bk_C B A (fun z => if z = s then 0 else g z) st ol th pl md cr lr (upd gv s 0) ib il it qi qc (upd ta s 0) wh od tg tr so bd fr en := by
  obtain ⟨⟨c1, c2, c3, c4, c5, c6, c7, c8⟩, h2, h3, h4, h5, h6⟩ := h
  refine ⟨⟨c1, c2, c3, c4, c5, c6, fun r p hr hp => ?_, c8⟩, h2, h3, fun z hz => ?_, h5, h6⟩
  · by_cases e : r / 4 = s
    · rw [hA r hr e] at hp; exact absurd hp List.not_mem_nil
    · show p.2.2 < (if r / 4 = s then 0 else g (r / 4)) ∧ _
      rw [if_neg e]
      exact c7 r p hr hp
  · obtain ⟨a1, a2, a3, a4, a5⟩ := h4 z hz
    unfold bk_G2
    dsimp only
    by_cases e : z = s
    · subst e
      rw [pk_us, pk_us, if_pos rfl]
      exact ⟨rfl, rfl, Nat.zero_le _, a4, a5⟩
    · rw [pk_un e, pk_un e, if_neg e]
      exact ⟨a1, a2, a3, a4, a5⟩
end DESK
