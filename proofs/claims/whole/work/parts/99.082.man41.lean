/-! the spec of dealOut lies in part 99.0813.p9 -/
