/-! what is kept, after a transaction's end and after keeping -/
section KEPT3
variable {kc kb kl kw kh kf kz ky : Nat → Int32}
theorem bk_K1_of {kb' kl' kw' kh' kf' kz' ky' : Nat → Int32} {p q p' q' w a x n : Nat} (h : bk_K1 kb kl kw kh kf kz ky p q w a x n) (h1 : ∀ k, k < 19 → kb' (p' * 19 + k) = kb (p * 19 + k)) (h2 : kl' p' = kl p)
    (h3 : kw' q' = kw q) (h4 : kh' q' = kh q) (h5 : kf' q' = kf q) (h6 : kz' q' = kz q) (h7 : ∀ k, k < 16 → ky' (16 * q' + k) = ky (16 * q + k)) : bk_K1 kb' kl' kw' kh' kf' kz' ky' p' q' w a x n := by
  obtain ⟨a1, a2, a3, a4, a5, a6, a7, a8, a9, a10, a11⟩ := h
  have z := h1 0 (by omega)
  rw [Nat.add_zero, Nat.add_zero] at z
  refine ⟨a1, a2, z.trans a3, (h1 1 (by omega)).trans a4, (h1 2 (by omega)).trans a5, h2.trans a6, h3.trans a7, h4.trans a8, h5.trans a9, h6.trans a10, fun j hj => ?_⟩
  have hn : n ≤ 16 := by omega
  rw [h7 j (by omega), ← a11 j hj, Nat.add_assoc, h1 (3 + j) (by omega), Nat.add_assoc]
/-- X's and Y's rows after a transaction's end -/
theorem bk_K_close (K : ∀ z, z < 4 → bk_K kc kb kl kw kh kf kz ky z) {s x c : Nat} (hs : s < 4) (hx : x < 256) (hc : kc s = nI c) (hc6 : c ≤ 6) :
    bk_nr (fun j => kb ((s * 7 + j) * 19 + 2)) (nI x) c = bk_nr (fun j => kf (6 * s + j)) (nI x) c ∧ ∀ z, z < 4 → bk_K (upd kc s (nI (bk_nr (fun j => kf (6 * s + j)) (nI x) c))) (bk_cw 19 kb (s * 7) (fun j => kb ((s * 7 + j) * 19 + 2)) (nI x) c) (bk_c1 kl (s * 7) (fun j => kb ((s * 7 + j) * 19 + 2)) (nI x) c) (bk_c1 kw (6 * s) (fun j => kf (6 * s + j)) (nI x) c) (bk_c1 kh (6 * s) (fun j => kf (6 * s + j)) (nI x) c) (bk_c1 kf (6 * s) (fun j => kf (6 * s + j)) (nI x) c) (bk_c1 kz (6 * s) (fun j => kf (6 * s + j)) (nI x) c) (bk_cw 16 ky (6 * s) (fun j => kf (6 * s + j)) (nI x) c) z := by
  obtain ⟨c', hc6', e', Ks⟩ := K s hs
  rw [hc] at e'
  have e' : c = c' := (nI_eq (by omega) (by omega)).mp e'
  subst e'
  have hFX : ∀ j, j < c → (fun j => kb ((s * 7 + j) * 19 + 2)) j = (fun j => kf (6 * s + j)) j := by
    intro j hj
    obtain ⟨w, a, y, n, kk, hy, k0, k1, k2, k3, y0, y1, y2, y3, kbo⟩ := Ks j hj
    exact k2.trans y2.symm
  have nrE : ∀ i, i ≤ c → bk_nr (fun j => kb ((s * 7 + j) * 19 + 2)) (nI x) i = bk_nr (fun j => kf (6 * s + j)) (nI x) i := fun i hi => bk_nr_congr _ _ _ i (fun j hj => hFX j (by omega))
  have le := bk_nr_le (fun j => kf (6 * s + j)) (nI x) c
  refine ⟨nrE c (Nat.le_refl _), fun z hz => ?_⟩
  have lx := nrE c (Nat.le_refl _)
  by_cases e : z = s
  · subst e
    refine ⟨bk_nr (fun j => kf (6 * z + j)) (nI x) c, by omega, pk_us, fun m hm => ?_⟩
    obtain ⟨j, hj, hjx, rfl⟩ := bk_nr_ex (fun j => kf (6 * z + j)) (nI x) c m hm
    obtain ⟨w, a, y, n, k⟩ := Ks j hj
    have hjx' : (fun j => kb ((z * 7 + j) * 19 + 2)) j ≠ nI x := by rw [hFX j hj]; exact hjx
    refine ⟨w, a, y, n, bk_K1_of k (fun k hk => ?_) ?_ (bk_c1_i kw _ _ _ c j hj hjx) (bk_c1_i kh _ _ _ c j hj hjx) (bk_c1_i kf _ _ _ c j hj hjx) (bk_c1_i kz _ _ _ c j hj hjx) (fun k hk => ?_)⟩
    · rw [← nrE j (by omega)]
      exact bk_cw_i 19 kb (z * 7) (fun j => kb ((z * 7 + j) * 19 + 2)) (nI x) c j k hk hj hjx'
    · rw [← nrE j (by omega)]
      exact bk_c1_i kl (z * 7) (fun j => kb ((z * 7 + j) * 19 + 2)) (nI x) c j hj hjx'
    · have := bk_cw_i 16 ky (6 * z) (fun j => kf (6 * z + j)) (nI x) c j k hk hj hjx
      rw [Nat.mul_comm 16 (6 * z + bk_nr (fun j => kf (6 * z + j)) (nI x) j), Nat.mul_comm 16 (6 * z + j)]
      exact this
  · obtain ⟨c2, hc2, e2, K2⟩ := K z hz
    refine ⟨c2, hc2, by rw [pk_un e]; exact e2, fun i hi => ?_⟩
    obtain ⟨w, a, y, n, k⟩ := K2 i hi
    refine ⟨w, a, y, n, bk_K1_of k (fun k hk => ?_) ?_ ?_ ?_ ?_ ?_ (fun k hk => ?_)⟩
    · exact bk_cw_o 19 kb (s * 7) (fun j => kb ((s * 7 + j) * 19 + 2)) (nI x) c (z * 7 + i) k hk (by omega)
    · exact bk_c1_o kl (s * 7) (fun j => kb ((s * 7 + j) * 19 + 2)) (nI x) c (z * 7 + i) (by omega)
    · exact bk_c1_o kw (6 * s) (fun j => kf (6 * s + j)) (nI x) c _ (by omega)
    · exact bk_c1_o kh (6 * s) (fun j => kf (6 * s + j)) (nI x) c _ (by omega)
    · exact bk_c1_o kf (6 * s) (fun j => kf (6 * s + j)) (nI x) c _ (by omega)
    · exact bk_c1_o kz (6 * s) (fun j => kf (6 * s + j)) (nI x) c _ (by omega)
    · have := bk_cw_o 16 ky (6 * s) (fun j => kf (6 * s + j)) (nI x) c (6 * z + i) k hk (by omega)
      rw [Nat.mul_comm 16 (6 * z + i)]
      exact this
/-- X's rows change beyond what is kept -/
theorem bk_K_beyond (K : ∀ z, z < 4 → bk_K kc kb kl kw kh kf kz ky z) {s c : Nat} (hs : s < 4) (hc : kc s = nI c) (hc6 : c ≤ 6) {kb' kl' : Nat → Int32}
    (hb : ∀ m k, m < 28 → m ≠ s * 7 + c → k < 19 → kb' (m * 19 + k) = kb (m * 19 + k)) (hl : ∀ m, m < 28 → m ≠ s * 7 + c → kl' m = kl m) : ∀ z, z < 4 → bk_K kc kb' kl' kw kh kf kz ky z := by
  intro z hz
  obtain ⟨c2, hc2, e2, K2⟩ := K z hz
  refine ⟨c2, hc2, e2, fun i hi => ?_⟩
  have ne : z * 7 + i ≠ s * 7 + c := by
    intro x
    have ez : z = s := by omega
    subst ez
    rw [hc] at e2
    have := (nI_eq (by omega) (by omega)).mp e2
    omega
  obtain ⟨w, a, y, n, k⟩ := K2 i hi
  exact ⟨w, a, y, n, bk_K1_of k (fun k hk => hb _ k (by omega) ne hk) (hl _ (by omega) ne) rfl rfl rfl rfl (fun _ _ => rfl)⟩
/-- one more is kept -/
theorem bk_K_more (K : ∀ z, z < 4 → bk_K kc kb kl kw kh kf kz ky z) {s c w a x n : Nat} (hs : s < 4) (hc : kc s = nI c) (hc6 : c < 6) {kb' kl' kw' kh' kf' kz' ky' : Nat → Int32}
    (hb : ∀ m k, m < 28 → m ≠ s * 7 + c → k < 19 → kb' (m * 19 + k) = kb (m * 19 + k)) (hl : ∀ m, m < 28 → m ≠ s * 7 + c → kl' m = kl m)
    (h3 : ∀ m, m ≠ 6 * s + c → kw' m = kw m) (h4 : ∀ m, m ≠ 6 * s + c → kh' m = kh m) (h5 : ∀ m, m ≠ 6 * s + c → kf' m = kf m) (h6 : ∀ m, m ≠ 6 * s + c → kz' m = kz m) (h7 : ∀ m k, m ≠ 6 * s + c → k < 16 → ky' (16 * m + k) = ky (16 * m + k))
    (new : bk_K1 kb' kl' kw' kh' kf' kz' ky' (s * 7 + c) (6 * s + c) w a x n) : ∀ z, z < 4 → bk_K (upd kc s (nI (c + 1))) kb' kl' kw' kh' kf' kz' ky' z := by
  have old : ∀ z i, z < 4 → i ≤ 6 → (z ≠ s ∨ i < c) → (∃ w a y n, bk_K1 kb kl kw kh kf kz ky (z * 7 + i) (6 * z + i) w a y n) → i < 6 → ∃ w a y n, bk_K1 kb' kl' kw' kh' kf' kz' ky' (z * 7 + i) (6 * z + i) w a y n := by
    rintro z i hz hi hne ⟨w, a, y, n, k⟩ hi6
    exact ⟨w, a, y, n, bk_K1_of k (fun k hk => hb _ k (by omega) (by omega) hk) (hl _ (by omega) (by omega)) (h3 _ (by omega)) (h4 _ (by omega)) (h5 _ (by omega)) (h6 _ (by omega)) (fun k hk => h7 _ k (by omega) hk)⟩
  intro z hz
  obtain ⟨c2, hc2, e2, K2⟩ := K z hz
  by_cases e : z = s
  · subst e
    rw [hc] at e2
    have e2 : c = c2 := (nI_eq (by omega) (by omega)).mp e2
    subst e2
    refine ⟨c + 1, by omega, pk_us, fun i hi => ?_⟩
    by_cases ei : i = c
    · subst ei; exact ⟨w, a, x, n, new⟩
    · exact old z i hz (by omega) (Or.inr (by omega)) (K2 i (by omega)) (by omega)
  · exact ⟨c2, hc2, by rw [pk_un e]; exact e2, fun i hi => old z i hz (by omega) (Or.inl e) (K2 i hi) (by omega)⟩
/-- none is kept any more in session s -/
theorem bk_K_none (K : ∀ z, z < 4 → bk_K kc kb kl kw kh kf kz ky z) (s : Nat) : ∀ z, z < 4 → bk_K (upd kc s 0) kb kl kw kh kf kz ky z := by
  intro z hz
  by_cases e : z = s
  · subst e
    exact ⟨0, by omega, pk_us, fun i hi => absurd hi (Nat.not_lt_zero i)⟩
  · obtain ⟨c2, hc2, e2, K2⟩ := K z hz
    exact ⟨c2, hc2, by rw [pk_un e]; exact e2, K2⟩
end KEPT3
section KEEP
variable {B : Nat} {A : Nat → List bk_E} {g : Nat → Nat} {st lf cd bg gv ob ol pb pn xp fh fl fa mk cb mi mb ml pa kb kl kc th pl md cr hc hg hi ib il it qi qc gc lc lr co ta yp ki le go la ps pd pt kw kh kf kz ky wh od tg tr so bd wo be : Nat → Int32} {px fr en ma wr : Int32}
theorem yk_close0 {s x c : Nat} (hs : s < 4) (hx : x < 256) (hc6 : c ≤ 6) (K : ∀ i, i < c → ∃ w a y n, bk_K1 kb kl kw kh kf kz ky (s * 7 + i) (6 * s + i) w a y n) :
    ∀ (N : Nat), N ≤ c → ∀ wo : Nat → Int32, ∃ wo' : Nat → Int32, ∀ (post : Int32 → SY → Prop) (f : Nat), N < f → post 1 (fr, en, ma, wr, st, lf, cd, ta, bg, upd kc s (nI (bk_nr (fun j => kf (6 * s + j)) (nI x) c)), ob, ol, pb, pn, yp, ki, le, go, mk, cb, mb, ml, la, ps, pd, pt, bk_c1 kw (6 * s) (fun j => kf (6 * s + j)) (nI x) (c), bk_c1 kh (6 * s) (fun j => kf (6 * s + j)) (nI x) (c), bk_c1 kf (6 * s) (fun j => kf (6 * s + j)) (nI x) (c), bk_c1 kz (6 * s) (fun j => kf (6 * s + j)) (nI x) (c), bk_cw 16 ky (6 * s) (fun j => kf (6 * s + j)) (nI x) (c), th, pl, md, cr, gc, lc, lr, wh, od, tg, tr, so, bd, wo', be) →
        wY_closes_29 post (nI s) (nI x) 0 (nI c) f (nI (bk_nr (fun j => kf (6 * s + j)) (nI x) (c - N))) (nI (6 * s + (c - N))) fr en ma wr st lf cd ta bg kc ob ol pb pn yp ki le go mk cb mb ml la ps pd pt (bk_c1 kw (6 * s) (fun j => kf (6 * s + j)) (nI x) (c - N)) (bk_c1 kh (6 * s) (fun j => kf (6 * s + j)) (nI x) (c - N)) (bk_c1 kf (6 * s) (fun j => kf (6 * s + j)) (nI x) (c - N)) (bk_c1 kz (6 * s) (fun j => kf (6 * s + j)) (nI x) (c - N)) (bk_cw 16 ky (6 * s) (fun j => kf (6 * s + j)) (nI x) (c - N)) th pl md cr gc lc lr wh od tg tr so bd wo be := by
  have cs : (nI s).toNatClampNeg = s := nI_clamp (by omega)
  have e0 : 6 * nI s + nI c = nI (6 * s + c) := by rw [bn_mul2, nI_add]
  intro N
  induction N with
  | zero =>
    intro _ wo
    refine ⟨wo, fun post f hf hp => ?_⟩
    obtain ⟨f, rfl⟩ : ∃ f', f = f' + 1 := ⟨f - 1, by omega⟩
    refine br_t (by rw [e0]; exact nI_le (by omega) (by omega)) ⟨pk_in s 4 hs, ?_⟩
    rw [cs]
    exact nm_e hp
  | succ N ih =>
    intro hN wo
    obtain ⟨w, a, y, n, kk, hy, k0, k1, k2, k3, y0, y1, y2, y3, kbo⟩ := K (c - (N + 1)) (by omega)
    have ei : c - N = c - (N + 1) + 1 := by omega
    generalize hi0 : c - (N + 1) = i at *
    have hic : i < c := by omega
    have nle_ := bk_nr_le (fun j => kf (6 * s + j)) (nI x) i
    have hn16 : n ≤ 16 := by omega
    have hF : (fun j => kf (6 * s + j)) i = nI y := y2
    have q2 : bk_c1 kf (6 * s) (fun j => kf (6 * s + j)) (nI x) i (6 * s + i) = nI y := by rw [bk_c1_o kf _ _ _ _ _ (by omega)]; exact y2
    have q3 : bk_c1 kz (6 * s) (fun j => kf (6 * s + j)) (nI x) i (6 * s + i) = nI n := by rw [bk_c1_o kz _ _ _ _ _ (by omega)]; exact y3
    have cq : (nI (6 * s + i)).toNatClampNeg = 6 * s + i := nI_clamp (by omega)
    have iq : vp_in (nI (6 * s + i)) 24 := vp_in_nI (by omega) (by omega)
    have nle : ¬ 6 * nI s + nI c ≤ nI (6 * s + i) := by rw [e0]; exact nI_ge (by omega) (by omega)
    by_cases e : y = x
    · subst e
      obtain ⟨wo', z⟩ := ih (by omega) (bk_mv wo 3 (fun k => bk_cw 16 ky (6 * s) (fun j => kf (6 * s + j)) (nI y) i ((6 * s + i) * 16 + k)) n)
      refine ⟨wo', fun post f hf hp => ?_⟩
      obtain ⟨f, rfl⟩ : ∃ f', f = f' + 1 := ⟨f - 1, by omega⟩
      have zz := z post f (by omega) hp
      rw [ei, bk_nr_eq (fun j => kf (6 * s + j)) (nI y) (n := i) hF, bk_c1_t kw (6 * s) (fun j => kf (6 * s + j)) (nI y) i hF, bk_c1_t kh (6 * s) (fun j => kf (6 * s + j)) (nI y) i hF, bk_c1_t kf (6 * s) (fun j => kf (6 * s + j)) (nI y) i hF, bk_c1_t kz (6 * s) (fun j => kf (6 * s + j)) (nI y) i hF, bk_cw_t 16 ky (6 * s) (fun j => kf (6 * s + j)) (nI y) i hF] at zz
      refine br_f nle ⟨iq, ?_⟩
      rw [cq, q2]
      refine br_t rfl ⟨n + 1, yk_close74 (kz := bk_c1 kz (6 * s) (fun j => kf (6 * s + j)) (nI y) i) (ky := bk_cw 16 ky (6 * s) (fun j => kf (6 * s + j)) (nI y) i) (by omega) hn16 q3 (fun g => ⟨iq, ?_⟩) (n + 1) 0 (by omega) (by omega)⟩
      rw [cq, q3]
      exact br_t (nI_le (Nat.le_refl _) (by omega)) (br_t rfl (nm_r (nI_1 (6 * s + i)) zz))
    · obtain ⟨wo', z⟩ := ih (by omega) wo
      have hF' : (fun j => kf (6 * s + j)) i ≠ nI x := by
        rw [hF]
        intro z
        exact e ((nI_eq (by omega) (by omega)).mp z)
      refine ⟨wo', fun post f hf hp => ?_⟩
      obtain ⟨f, rfl⟩ : ∃ f', f = f' + 1 := ⟨f - 1, by omega⟩
      have zz := z post f (by omega) hp
      rw [ei, bk_nr_up (fun j => kf (6 * s + j)) (nI x) (n := i) hF', bk_c1_f kw (6 * s) (fun j => kf (6 * s + j)) (nI x) i hF', bk_c1_f kh (6 * s) (fun j => kf (6 * s + j)) (nI x) i hF', bk_c1_f kf (6 * s) (fun j => kf (6 * s + j)) (nI x) i hF', bk_c1_f kz (6 * s) (fun j => kf (6 * s + j)) (nI x) i hF', bk_cw_f 16 ky (6 * s) (fun j => kf (6 * s + j)) (nI x) i hF'] at zz
      have e3 : 6 * nI s + nI (bk_nr (fun j => kf (6 * s + j)) (nI x) i) = nI (6 * s + bk_nr (fun j => kf (6 * s + j)) (nI x) i) := by rw [bn_mul2, nI_add]
      refine br_f nle ⟨iq, ?_⟩
      rw [cq, q2, e3]
      refine br_f (fun z => e ((nI_eq (by omega) (by omega)).mp z)) (yk_move (by omega) (by omega) (nm_r (nI_1 _) (nm_r (nI_1 (6 * s + i)) zz)))
theorem xk_keep14 {post : SX → Prop} {s c m : Nat} (hs : s < 4) (hc6 : c ≤ 6) (hm : m ≤ 19) (hc' : kc s = nI c)
    (hp : post (nI m, st, lf, cd, bg, gv, ob, ol, pb, pn, xp, fh, fl, fa, mk, cb, mi, mb, ml, pa, bk_mv kb ((s * 7 + c) * 19) pa m, upd kl (s * 7 + c) (nI m), upd kc s (nI (c + 1)), th, pl, md, cr, hc, hg, hi, ib, il, it, qi, qc, gc, lc, lr, co)) :
    ∀ f k, k ≤ m → m - k < f → wX_keep_14 post (nI s) (nI (s * 7 + c)) (nI m) f (nI k) st lf cd bg gv ob ol pb pn xp fh fl fa mk cb mi mb ml pa (bk_mv kb ((s * 7 + c) * 19) pa k) kl kc th pl md cr hc hg hi ib il it qi qc gc lc lr co
  | 0, k, _, h => by omega
  | f + 1, k, h1, h2 => by
    have cs : (nI s).toNatClampNeg = s := nI_clamp (by omega)
    have cp : (nI (s * 7 + c)).toNatClampNeg = s * 7 + c := nI_clamp (by omega)
    have ck : (nI k).toNatClampNeg = k := nI_clamp (by omega)
    have e1 : nI (s * 7 + c) * 19 + nI k = nI ((s * 7 + c) * 19 + k) := by rw [bn_mul, nI_add]
    have c1 : (nI ((s * 7 + c) * 19 + k)).toNatClampNeg = (s * 7 + c) * 19 + k := nI_clamp (by omega)
    refine pk_le m k (fun g => ⟨vp_in_nI (by omega) (by omega), ?_⟩) (fun g => br_f (nI_ge (b := 19) (by omega) (by omega)) ?_)
    · have : k = m := by omega
      subst this
      rw [cs, cp, hc', nI_1]
      exact nm_e ⟨pk_in s 4 hs, pk_in s 4 hs, nm_e hp⟩
    · rw [e1, c1, ck]
      exact ⟨vp_in_nI (by omega) (by omega), vp_in_nI (by omega) (by omega), nm_e (nm_r (nI_1 k) (xk_keep14 hs hc6 hm hc' hp f (k + 1) (by omega) (by omega)))⟩
theorem xk_keep {post : SX → Prop} {s c m : Nat} (hs : s < 4) (hc6 : c ≤ 6) (hm : m ≤ 19) (hc' : kc s = nI c)
    (hp : post (nI m, st, lf, cd, bg, gv, ob, ol, pb, pn, xp, fh, fl, fa, mk, cb, mi, mb, ml, pa, bk_mv kb ((s * 7 + c) * 19) pa m, upd kl (s * 7 + c) (nI m), upd kc s (nI (c + 1)), th, pl, md, cr, hc, hg, hi, ib, il, it, qi, qc, gc, lc, lr, co)) : wpX_keep post (nI m, st, lf, cd, bg, gv, ob, ol, pb, pn, xp, fh, fl, fa, mk, cb, mi, mb, ml, pa, kb, kl, kc, th, pl, md, cr, hc, hg, hi, ib, il, it, qi, qc, gc, lc, lr, co) (nI s) := by
  have cs : (nI s).toNatClampNeg = s := nI_clamp (by omega)
  have e1 : nI s * 7 + nI c = nI (s * 7 + c) := by rw [bn_mul, nI_add]
  refine ⟨pk_in s 4 hs, ?_⟩
  rw [cs, hc']
  exact nm_r e1 ⟨m + 1, xk_keep14 hs hc6 hm hc' hp (m + 1) 0 (by omega) (by omega)⟩
theorem yk_does111 {post : Int32 → SY → Prop} {q n : Nat} (hq : q < 24) (hn : n ≤ 16) (hp : post 1 (fr, en, ma, wr, st, lf, cd, ta, bg, kc, ob, ol, pb, pn, yp, ki, le, go, mk, cb, mb, ml, la, ps, pd, pt, kw, kh, kf, kz, bk_mv ky (q * 16) (fun k => wo (3 + k)) n, th, pl, md, cr, gc, lc, lr, wh, od, tg, tr, so, bd, wo, be)) :
    ∀ f k, k ≤ n → n - k < f → wY_does_111 post (nI n) (nI q) fr en ma wr f (nI k) st lf cd ta bg kc ob ol pb pn yp ki le go mk cb mb ml la ps pd pt kw kh kf kz (bk_mv ky (q * 16) (fun k => wo (3 + k)) k) th pl md cr gc lc lr wh od tg tr so bd wo be
  | 0, k, _, h => by omega
  | f + 1, k, h1, h2 => by
    have e1 : 3 + nI k = nI (3 + k) := bn_add2 k 3
    have e2 : 16 * nI q + nI k = nI (q * 16 + k) := by rw [bn_mul2, nI_add, Nat.mul_comm]
    have c1 : (nI (3 + k)).toNatClampNeg = 3 + k := nI_clamp (by omega)
    have c2 : (nI (q * 16 + k)).toNatClampNeg = q * 16 + k := nI_clamp (by omega)
    refine pk_le n k (fun g => ?_) (fun g => ?_)
    · have : k = n := by omega
      subst this
      exact hp
    · rw [e1, e2, c1, c2]
      exact ⟨vp_in_nI (by omega) (by omega), vp_in_nI (by omega) (by omega), nm_e (nm_r (nI_1 k) (yk_does111 hq hn hp f (k + 1) (by omega) (by omega)))⟩
/-- Y keeps -/
theorem yk_keep {post : Int32 → SY → Prop} {s c n : Nat} {w a x : Int32} (hs : s < 4) (hc6 : c < 6) (hn : n ≤ 16) (hc' : kc s = nI c) (hx : x ≠ 0)
    (hp : post 1 (fr, en, ma, wr, st, lf, cd, ta, bg, upd kc s (nI (c + 1)), ob, ol, pb, pn, yp, ki, le, go, mk, cb, mb, ml, la, ps, pd, pt, upd kw (6 * s + c) w, upd kh (6 * s + c) a, upd kf (6 * s + c) x, upd kz (6 * s + c) (nI n), bk_mv ky ((6 * s + c) * 16) (fun k => wo (3 + k)) n, th, pl, md, cr, gc, lc, lr, wh, od, tg, tr, so, bd, wo, be)) : wpY_does post (fr, en, ma, wr, st, lf, cd, ta, bg, kc, ob, ol, pb, pn, yp, ki, le, go, mk, cb, mb, ml, la, ps, pd, pt, kw, kh, kf, kz, ky, th, pl, md, cr, gc, lc, lr, wh, od, tg, tr, so, bd, wo, be) (nI s) w a x (nI n) := by
  have cs : (nI s).toNatClampNeg = s := nI_clamp (by omega)
  have e1 : 6 * nI s + nI c = nI (6 * s + c) := by rw [bn_mul2, nI_add]
  have cq : (nI (6 * s + c)).toNatClampNeg = 6 * s + c := nI_clamp (by omega)
  have iq : vp_in (nI (6 * s + c)) 24 := vp_in_nI (by omega) (by omega)
  have i4 : vp_in (nI s) 4 := pk_in s 4 hs
  refine br_f hx ⟨i4, ?_⟩
  rw [cs, hc', nI_1]
  refine br_f (fun z => absurd ((nI_eq (a := c) (b := 6) (by omega) (by omega)).mp z) (by omega)) ⟨i4, nm_r e1 ⟨i4, i4, nm_e ⟨iq, ?_⟩⟩⟩
  rw [cq]
  exact nm_e ⟨iq, nm_e ⟨iq, nm_e ⟨iq, nm_e ⟨n + 1, yk_does111 (kc := upd kc s (nI (c + 1))) (kw := upd kw (6 * s + c) w) (kh := upd kh (6 * s + c) a) (kf := upd kf (6 * s + c) x) (kz := upd kz (6 * s + c) (nI n)) (by omega) hn hp (n + 1) 0 (by omega) (by omega)⟩⟩⟩⟩
end KEEP
