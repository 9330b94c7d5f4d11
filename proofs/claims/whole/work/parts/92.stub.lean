theorem dataOk : DataOk := sorry
