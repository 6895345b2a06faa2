/-! worlds in any order, and what a call leaves alone -/
theorem va_P_mem {D : va_G} {cl : List vw_C} {ws : va_W} {H : Heap} : va_P D cl ws H ↔ ∀ q ∈ ws, va_at D cl q H := by
  constructor
  · intro h q hq
    obtain ⟨i, hi⟩ := List.getElem?_of_mem hq
    exact h i q hi
  · intro h k q hq
    exact h q (List.mem_of_getElem? hq)
theorem va_D_nd {A : Nat → Prop} {ws : va_W} : va_D A ws ↔ (ws.map (fun q => q.1)).Nodup ∧ ∀ q ∈ ws, A q.1 := by
  constructor
  · rintro ⟨h1, h2⟩
    refine ⟨?_, fun q hq => ?_⟩
    · rw [List.nodup_iff_pairwise_ne, List.pairwise_iff_getElem]
      intro i j hi hj hij e
      rw [List.length_map] at hi hj
      rw [List.getElem_map, List.getElem_map] at e
      exact absurd (h1 i j _ _ (List.getElem?_eq_getElem hi) (List.getElem?_eq_getElem hj) e) (by omega)
    · obtain ⟨i, hi⟩ := List.getElem?_of_mem hq
      exact h2 i q hi
  · rintro ⟨h1, h2⟩
    refine ⟨?_, fun k q hq => h2 q (List.mem_of_getElem? hq)⟩
    rw [List.nodup_iff_pairwise_ne, List.pairwise_iff_getElem] at h1
    intro i j p q hp hq e
    obtain ⟨hi, rfl⟩ := List.getElem?_eq_some_iff.mp hp
    obtain ⟨hj, rfl⟩ := List.getElem?_eq_some_iff.mp hq
    rcases Nat.lt_trichotomy i j with h | h | h
    · exact absurd (by rw [List.getElem_map, List.getElem_map]; exact e) (h1 i j (by rw [List.length_map]; exact hi) (by rw [List.length_map]; exact hj) h)
    · exact h
    · exact absurd (by rw [List.getElem_map, List.getElem_map]; exact e.symm) (h1 j i (by rw [List.length_map]; exact hj) (by rw [List.length_map]; exact hi) h)
theorem va_K_mem {D : va_G} {cl : List vw_C} {t1 t2 : List (ClassId × FieldType)} {U : State} (h : va_K D cl t1 U) (hs : ∀ q ∈ t2, q ∈ t1) : va_K D cl t2 U := by
  refine ⟨h.1, fun k q hk => ?_⟩
  obtain ⟨i, hi⟩ := List.getElem?_of_mem (hs q (List.mem_of_getElem? hk))
  exact h.2 i q hi
theorem va_P_perm {D : va_G} {cl : List vw_C} {w w' : va_W} {H : Heap} (h : va_P D cl w H) (hp : w.Perm w') : va_P D cl w' H :=
  va_P_mem.mpr fun q hq => va_P_mem.mp h q (hp.mem_iff.mpr hq)
theorem va_D_perm {A : Nat → Prop} {w w' : va_W} (h : va_D A w) (hp : w.Perm w') : va_D A w' := by
  obtain ⟨h1, h2⟩ := va_D_nd.mp h
  exact va_D_nd.mpr ⟨(hp.map _).nodup_iff.mp h1, fun q hq => h2 q (hp.mem_iff.mpr hq)⟩
theorem va_A_perm {w w' : va_W} {sz : Nat} (hp : w.Perm w') : ∀ q, va_A w' sz q → va_A w sz q := by
  rintro q (⟨k, e, h⟩ | h)
  · obtain ⟨i, hi⟩ := List.getElem?_of_mem (hp.mem_iff.mpr (List.mem_of_getElem? h))
    exact Or.inl ⟨i, e, hi⟩
  · exact Or.inr h
theorem Hx_perm {D : Dx} {tys tys' : List (ClassId × FieldType)} {A : Nat → Prop} {s : State} {H : Heap} {locs : List Loc} {w w' : va_W} (X : Hx D tys A s H locs w) (hp : w.Perm w') (ht : ∀ q ∈ tys', q ∈ tys) : Hx D tys' A s H locs w' :=
  ⟨va_K_mem X.1 ht, va_P_perm X.2.1 hp, va_D_perm X.2.2.1 hp, X.2.2.2⟩
/-- the callee's part lies in front; what comes back from it stands in front again -/
theorem Hx_free {D : Dx} {tys : List (ClassId × FieldType)} {A : Nat → Prop} {s : State} {H : Heap} {locs : List Loc} {wC wr : va_W} (X : Hx D tys A s H locs (wC ++ wr)) : ∀ q, va_A wC H.size q → A q := by
  rintro q (⟨k, e, h⟩ | h)
  · exact (va_D_nd.mp X.2.2.1).2 (q, e) (List.mem_append_left _ (List.mem_of_getElem? h))
  · exact X.2.2.2.2.1 q (Nat.le_trans X.2.2.2.1.1 h)
theorem Hx_pre {D : Dx} {tys : List (ClassId × FieldType)} {A : Nat → Prop} {s : State} {H : Heap} {locs : List Loc} {wC wr : va_W} (X : Hx D tys A s H locs (wC ++ wr)) : va_P D.1 vwCl wC H ∧ va_D A wC := by
  refine ⟨va_P_mem.mpr fun q hq => va_P_mem.mp X.2.1 q (List.mem_append_left _ hq), ?_⟩
  obtain ⟨h1, h2⟩ := va_D_nd.mp X.2.2.1
  rw [List.map_append] at h1
  exact va_D_nd.mpr ⟨(List.nodup_append.mp h1).1, fun q hq => h2 q (List.mem_append_left _ hq)⟩
theorem Hx_frame {D : Dx} {tys t1 : List (ClassId × FieldType)} {A : Nat → Prop} {s : State} {H H1 : Heap} {locs locs1 : List Loc} {wC wr w1 : va_W} (X : Hx D tys A s H locs (wC ++ wr)) (hK1 : va_K D.1 vwCl t1 s) (hP1 : va_P D.1 vwCl w1 H1) (hD1 : va_D (va_A wC H.size) w1) (hk : ∀ q : Nat, q < H.size → ¬ va_A wC H.size q → H1[q]? = H[q]?) (hS : va_S A s.heap H1 locs1) : Hx D (t1 ++ tys) A s H1 locs1 (w1 ++ wr) := by
  obtain ⟨n1, n2⟩ := va_D_nd.mp X.2.2.1
  rw [List.map_append] at n1
  obtain ⟨m1, m2, m3⟩ := List.nodup_append.mp n1
  have hlt : ∀ q ∈ wr, q.1 < H.size := fun q hq => by
    obtain ⟨i, hi⟩ := List.getElem?_of_mem (List.mem_append_right wC hq)
    exact (X.2.1 i q hi).lt
  have hap : ∀ q ∈ wr, ¬ va_A wC H.size q.1 := by
    rintro q hq (⟨k, e, h⟩ | h)
    · exact m3 q.1 (List.mem_map.mpr ⟨(q.1, e), List.mem_of_getElem? h, rfl⟩) q.1 (List.mem_map.mpr ⟨q, hq, rfl⟩) rfl
    · exact absurd (hlt q hq) (by omega)
  obtain ⟨d1, d2⟩ := va_D_nd.mp hD1
  refine ⟨hK1.app X.1, hP1.app (va_P_mem.mpr fun q hq => ?_), va_D_nd.mpr ⟨?_, fun q hq => ?_⟩, hS, X.2.2.2.2⟩
  · exact (va_P_mem.mp X.2.1 q (List.mem_append_right _ hq)).kept (hk q.1 (hlt q hq) (hap q hq))
  · rw [List.map_append]
    refine List.nodup_append.mpr ⟨d1, m2, ?_⟩
    rintro a ha b hb rfl
    obtain ⟨q, hq, rfl⟩ := List.mem_map.mp ha
    obtain ⟨r, hr, e⟩ := List.mem_map.mp hb
    exact hap r hr (by rw [e]; exact d2 q hq)
  · rcases List.mem_append.mp hq with h | h
    · exact Hx_free X q.1 (d2 q h)
    · exact n2 q (List.mem_append_right _ h)
