theorem zok_all : ∀ mi, (zc mi).all (zOkE mi) = true := sorry
