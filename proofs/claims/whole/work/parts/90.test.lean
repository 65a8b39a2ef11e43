section
theorem zz_test : True := trivial
end
