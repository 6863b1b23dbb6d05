/-! the rows on exceptions stand on the library's last shelf: this row names one of its laws, so that every part is read over the whole library -/
theorem wd_name : True := by
  have _ := @Stand.thenCaughtThrough
  trivial
