-- The abstract machine is sound.
section ab_snd
variable {l : Launch} {D : va_G} {q sa wa B : Nat} {Hb : Heap}
theorem ab_sound (hHT : ab_HT l D q sa wa B Hb) (hHC : ab_HC l D q sa wa B Hb) (hA : sa < B ∧ wa < B ∧ sa ≠ wa) : ∀ n, ab_Snd l D q sa wa B Hb n
  | 0 => fun _ _ _ _ _ _ _ _ h => nomatch (show (none : ab_R) = some _ from h)
  | n + 1 => by
    intro d k pc L st S o S' h p e R s m args below meth c n0 z0 hF hE hfr hlo hce hsl
    unfold ab_run at h
    split at h
    · cases h
    · rename_i x hx
      have ih := ab_sound hHT hHC hA n
      refine ab_exW (r := (o, S')) hHT hHC hF hE hA ih (ab_ins_ok hx).2 (ab_ins_ok hx).1 h hfr hlo hce hsl (fun pc' L' st' S1 h' => ab_mono q n _ _ _ _ _ _ _ h') (fun pc' L' st' S1 h' => ?_)
      intro H locs ls hL hl hX
      exact ih d k pc' _ st' S1 o S' h' p e R s m args below meth c n0 z0 hF hE hfr hlo hce hsl H locs ls (hL.zip _) ((ab_zip_len _ _).trans hl) hX
end ab_snd
